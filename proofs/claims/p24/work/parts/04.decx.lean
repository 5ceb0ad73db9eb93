theorem dX0_init_0 : decode cX0_init 0 = .ok (.aload_n 0, 1) := by decide +kernel
theorem dX0_init_1 : decode cX0_init 1 = .ok (.invokespecial 1, 3) := by decide +kernel
theorem dX0_init_4 : decode cX0_init 4 = .ok (.aload_n 0, 1) := by decide +kernel
theorem dX0_init_5 : decode cX0_init 5 = .ok (.aload_n 1, 1) := by decide +kernel
theorem dX0_init_6 : decode cX0_init 6 = .ok (.putfield 7, 3) := by decide +kernel
theorem dX0_init_9 : decode cX0_init 9 = .ok (.aload_n 0, 1) := by decide +kernel
theorem dX0_init_10 : decode cX0_init 10 = .ok (.aload_n 2, 1) := by decide +kernel
theorem dX0_init_11 : decode cX0_init 11 = .ok (.putfield 13, 3) := by decide +kernel
theorem dX0_init_14 : decode cX0_init 14 = .ok (.aload_n 0, 1) := by decide +kernel
theorem dX0_init_15 : decode cX0_init 15 = .ok (.iload_n 3, 1) := by decide +kernel
theorem dX0_init_16 : decode cX0_init 16 = .ok (.putfield 17, 3) := by decide +kernel
theorem dX0_init_19 : decode cX0_init 19 = .ok (.aload_n 0, 1) := by decide +kernel
theorem dX0_init_20 : decode cX0_init 20 = .ok (.aload_n 2, 1) := by decide +kernel
theorem dX0_init_21 : decode cX0_init 21 = .ok (.ifnonnull 7, 3) := by decide +kernel
theorem dX0_init_24 : decode cX0_init 24 = .ok (.iconst 0, 1) := by decide +kernel
theorem dX0_init_25 : decode cX0_init 25 = .ok (.goto 9, 3) := by decide +kernel
theorem dX0_init_28 : decode cX0_init 28 = .ok (.aload_n 2, 1) := by decide +kernel
theorem dX0_init_29 : decode cX0_init 29 = .ok (.getfield 21, 3) := by decide +kernel
theorem dX0_init_32 : decode cX0_init 32 = .ok (.iconst 1, 1) := by decide +kernel
theorem dX0_init_33 : decode cX0_init 33 = .ok (.iadd, 1) := by decide +kernel
theorem dX0_init_34 : decode cX0_init 34 = .ok (.putfield 21, 3) := by decide +kernel
theorem dX0_init_37 : decode cX0_init 37 = .ok (.return_, 1) := by decide +kernel
set_option maxRecDepth 20000 in
theorem ggX0_ranksAhead_X0_standsAhead : GoodIn wsX0_ranksAhead wsX0_standsAhead := goodIn_r _ [7, 8, 9, 10, 11, 12, 13, 14, 15, 16, 17, 18, 19] (by decide +kernel) (by decide +kernel)
set_option maxRecDepth 20000 in
theorem gX0_ranksAhead_X0_standsAhead : GoodIn wsX0_ranksAhead (wsV RX0 30 RX0 yX0_standsAhead wsX0_standsAhead) := goodIn_app (goodIn_of _ (by decide +kernel)) ggX0_ranksAhead_X0_standsAhead
theorem dX0_ranksAhead_0 : decode cX0_ranksAhead 0 = .ok (.aload_n 0, 1) := by decide +kernel
theorem dX0_ranksAhead_1 : decode cX0_ranksAhead 1 = .ok (.getfield 24, 3) := by decide +kernel
theorem dX0_ranksAhead_4 : decode cX0_ranksAhead 4 = .ok (.aload_n 1, 1) := by decide +kernel
theorem dX0_ranksAhead_5 : decode cX0_ranksAhead 5 = .ok (.getfield 24, 3) := by decide +kernel
theorem dX0_ranksAhead_8 : decode cX0_ranksAhead 8 = .ok (.if_icmp .eq 20, 3) := by decide +kernel
theorem dX0_ranksAhead_11 : decode cX0_ranksAhead 11 = .ok (.aload_n 0, 1) := by decide +kernel
theorem dX0_ranksAhead_12 : decode cX0_ranksAhead 12 = .ok (.getfield 24, 3) := by decide +kernel
theorem dX0_ranksAhead_15 : decode cX0_ranksAhead 15 = .ok (.aload_n 1, 1) := by decide +kernel
theorem dX0_ranksAhead_16 : decode cX0_ranksAhead 16 = .ok (.getfield 24, 3) := by decide +kernel
theorem dX0_ranksAhead_19 : decode cX0_ranksAhead 19 = .ok (.if_icmp .ge 7, 3) := by decide +kernel
theorem dX0_ranksAhead_22 : decode cX0_ranksAhead 22 = .ok (.iconst 1, 1) := by decide +kernel
theorem dX0_ranksAhead_23 : decode cX0_ranksAhead 23 = .ok (.goto 4, 3) := by decide +kernel
theorem dX0_ranksAhead_26 : decode cX0_ranksAhead 26 = .ok (.iconst 0, 1) := by decide +kernel
theorem dX0_ranksAhead_27 : decode cX0_ranksAhead 27 = .ok (.ireturn, 1) := by decide +kernel
theorem dX0_ranksAhead_28 : decode cX0_ranksAhead 28 = .ok (.aload_n 0, 1) := by decide +kernel
theorem dX0_ranksAhead_29 : decode cX0_ranksAhead 29 = .ok (.getfield 27, 3) := by decide +kernel
theorem dX0_ranksAhead_32 : decode cX0_ranksAhead 32 = .ok (.aload_n 1, 1) := by decide +kernel
theorem dX0_ranksAhead_33 : decode cX0_ranksAhead 33 = .ok (.getfield 27, 3) := by decide +kernel
theorem dX0_ranksAhead_36 : decode cX0_ranksAhead 36 = .ok (.if_icmp .eq 20, 3) := by decide +kernel
theorem dX0_ranksAhead_39 : decode cX0_ranksAhead 39 = .ok (.aload_n 0, 1) := by decide +kernel
theorem dX0_ranksAhead_40 : decode cX0_ranksAhead 40 = .ok (.getfield 27, 3) := by decide +kernel
theorem dX0_ranksAhead_43 : decode cX0_ranksAhead 43 = .ok (.aload_n 1, 1) := by decide +kernel
theorem dX0_ranksAhead_44 : decode cX0_ranksAhead 44 = .ok (.getfield 27, 3) := by decide +kernel
theorem dX0_ranksAhead_47 : decode cX0_ranksAhead 47 = .ok (.if_icmp .le 7, 3) := by decide +kernel
theorem dX0_ranksAhead_50 : decode cX0_ranksAhead 50 = .ok (.iconst 1, 1) := by decide +kernel
theorem dX0_ranksAhead_51 : decode cX0_ranksAhead 51 = .ok (.goto 4, 3) := by decide +kernel
theorem dX0_ranksAhead_54 : decode cX0_ranksAhead 54 = .ok (.iconst 0, 1) := by decide +kernel
theorem dX0_ranksAhead_55 : decode cX0_ranksAhead 55 = .ok (.ireturn, 1) := by decide +kernel
theorem dX0_ranksAhead_56 : decode cX0_ranksAhead 56 = .ok (.aload_n 0, 1) := by decide +kernel
theorem dX0_ranksAhead_57 : decode cX0_ranksAhead 57 = .ok (.aload_n 1, 1) := by decide +kernel
theorem dX0_ranksAhead_58 : decode cX0_ranksAhead 58 = .ok (.invokevirtual 30, 3) := by decide +kernel
theorem dX0_ranksAhead_61 : decode cX0_ranksAhead 61 = .ok (.ireturn, 1) := by decide +kernel
theorem dX0_standsAhead_0 : decode cX0_standsAhead 0 = .ok (.aload_n 0, 1) := by decide +kernel
theorem dX0_standsAhead_1 : decode cX0_standsAhead 1 = .ok (.getfield 7, 3) := by decide +kernel
theorem dX0_standsAhead_4 : decode cX0_standsAhead 4 = .ok (.getfield 34, 3) := by decide +kernel
theorem dX0_standsAhead_7 : decode cX0_standsAhead 7 = .ok (.aload_n 1, 1) := by decide +kernel
theorem dX0_standsAhead_8 : decode cX0_standsAhead 8 = .ok (.getfield 7, 3) := by decide +kernel
theorem dX0_standsAhead_11 : decode cX0_standsAhead 11 = .ok (.getfield 34, 3) := by decide +kernel
theorem dX0_standsAhead_14 : decode cX0_standsAhead 14 = .ok (.lcmp, 1) := by decide +kernel
theorem dX0_standsAhead_15 : decode cX0_standsAhead 15 = .ok (.ifCond .ge 7, 3) := by decide +kernel
theorem dX0_standsAhead_18 : decode cX0_standsAhead 18 = .ok (.iconst 1, 1) := by decide +kernel
theorem dX0_standsAhead_19 : decode cX0_standsAhead 19 = .ok (.goto 4, 3) := by decide +kernel
theorem dX0_standsAhead_22 : decode cX0_standsAhead 22 = .ok (.iconst 0, 1) := by decide +kernel
theorem dX0_standsAhead_23 : decode cX0_standsAhead 23 = .ok (.ireturn, 1) := by decide +kernel
set_option maxRecDepth 20000 in
theorem ggX1_init_X2_init : GoodIn wsX1_init wsX2_init := goodIn_r _ [9, 10, 2, 3, 11, 12, 13] (by decide +kernel) (by decide +kernel)
set_option maxRecDepth 20000 in
theorem gX1_init_X2_init_n9 : GoodIn wsX1_init (wsX2_init) := ggX1_init_X2_init
theorem dX1_init_0 : decode cX1_init 0 = .ok (.aload_n 0, 1) := by decide +kernel
theorem dX1_init_1 : decode cX1_init 1 = .ok (.invokespecial 1, 3) := by decide +kernel
theorem dX1_init_4 : decode cX1_init 4 = .ok (.aload_n 0, 1) := by decide +kernel
theorem dX1_init_5 : decode cX1_init 5 = .ok (.new 7, 3) := by decide +kernel
theorem dX1_init_8 : decode cX1_init 8 = .ok (.dup, 1) := by decide +kernel
theorem dX1_init_9 : decode cX1_init 9 = .ok (.invokespecial 9, 3) := by decide +kernel
theorem dX1_init_12 : decode cX1_init 12 = .ok (.putfield 10, 3) := by decide +kernel
theorem dX1_init_15 : decode cX1_init 15 = .ok (.return_, 1) := by decide +kernel
set_option maxRecDepth 20000 in
theorem ggX1_lettersApart_X1_startRows : GoodIn wsX1_lettersApart wsX1_startRows := goodIn_r _ [6, 1, 7, 8, 9, 10, 11, 12, 13, 14, 15, 36, 37, 38, 39, 40] (by decide +kernel) (by decide +kernel)
set_option maxRecDepth 20000 in
theorem gX1_lettersApart_X1_startRows : GoodIn wsX1_lettersApart (wsV RX1 16 RX1 yX1_startRows wsX1_startRows) := goodIn_app (goodIn_of _ (by decide +kernel)) ggX1_lettersApart_X1_startRows
set_option maxRecDepth 20000 in
theorem ggX1_lettersApart_X8_letterAt : GoodIn wsX1_lettersApart wsX8_letterAt := goodIn_r _ [20, 21, 22, 23, 36, 37, 38] (by decide +kernel) (by decide +kernel)
set_option maxRecDepth 20000 in
theorem gX1_lettersApart_X8_letterAt : GoodIn wsX1_lettersApart (wsV RX1 26 RX8 yX8_letterAt wsX8_letterAt) := goodIn_app (goodIn_of _ (by decide +kernel)) ggX1_lettersApart_X8_letterAt
set_option maxRecDepth 20000 in
theorem ggX1_lettersApart_X1_fillRow : GoodIn wsX1_lettersApart wsX1_fillRow := goodIn_r _ [27, 1, 28, 29, 30, 31, 7, 8, 9, 10, 11, 12, 13, 14, 15, 32, 33, 34, 35, 16, 17, 18, 19, 20, 21, 22, 23, 39, 36, 37, 38, 40] (by decide +kernel) (by decide +kernel)
set_option maxRecDepth 20000 in
theorem gX1_lettersApart_X1_fillRow : GoodIn wsX1_lettersApart (wsV RX1 30 RX1 yX1_fillRow wsX1_fillRow) := goodIn_app (goodIn_of _ (by decide +kernel)) ggX1_lettersApart_X1_fillRow
set_option maxRecDepth 20000 in
theorem ggX1_lettersApart_X2_at : GoodIn wsX1_lettersApart wsX2_at := goodIn_r _ [35, 12, 13, 14, 10, 15, 40] (by decide +kernel) (by decide +kernel)
set_option maxRecDepth 20000 in
theorem gX1_lettersApart_X2_at : GoodIn wsX1_lettersApart (wsV RX1 34 RX2 yX2_at wsX2_at) := goodIn_app (goodIn_of _ (by decide +kernel)) ggX1_lettersApart_X2_at
theorem dX1_lettersApart_0 : decode cX1_lettersApart 0 = .ok (.aload_n 0, 1) := by decide +kernel
theorem dX1_lettersApart_1 : decode cX1_lettersApart 1 = .ok (.aload_n 2, 1) := by decide +kernel
theorem dX1_lettersApart_2 : decode cX1_lettersApart 2 = .ok (.invokevirtual 16, 3) := by decide +kernel
theorem dX1_lettersApart_5 : decode cX1_lettersApart 5 = .ok (.iconst 1, 1) := by decide +kernel
theorem dX1_lettersApart_6 : decode cX1_lettersApart 6 = .ok (.istore_n 3, 1) := by decide +kernel
theorem dX1_lettersApart_7 : decode cX1_lettersApart 7 = .ok (.iload_n 3, 1) := by decide +kernel
theorem dX1_lettersApart_8 : decode cX1_lettersApart 8 = .ok (.aload_n 1, 1) := by decide +kernel
theorem dX1_lettersApart_9 : decode cX1_lettersApart 9 = .ok (.getfield 20, 3) := by decide +kernel
theorem dX1_lettersApart_12 : decode cX1_lettersApart 12 = .ok (.if_icmp .gt 22, 3) := by decide +kernel
theorem dX1_lettersApart_15 : decode cX1_lettersApart 15 = .ok (.aload_n 0, 1) := by decide +kernel
theorem dX1_lettersApart_16 : decode cX1_lettersApart 16 = .ok (.iload_n 3, 1) := by decide +kernel
theorem dX1_lettersApart_17 : decode cX1_lettersApart 17 = .ok (.aload_n 1, 1) := by decide +kernel
theorem dX1_lettersApart_18 : decode cX1_lettersApart 18 = .ok (.iload_n 3, 1) := by decide +kernel
theorem dX1_lettersApart_19 : decode cX1_lettersApart 19 = .ok (.iconst 1, 1) := by decide +kernel
theorem dX1_lettersApart_20 : decode cX1_lettersApart 20 = .ok (.isub, 1) := by decide +kernel
theorem dX1_lettersApart_21 : decode cX1_lettersApart 21 = .ok (.invokevirtual 26, 3) := by decide +kernel
theorem dX1_lettersApart_24 : decode cX1_lettersApart 24 = .ok (.aload_n 2, 1) := by decide +kernel
theorem dX1_lettersApart_25 : decode cX1_lettersApart 25 = .ok (.invokevirtual 30, 3) := by decide +kernel
theorem dX1_lettersApart_28 : decode cX1_lettersApart 28 = .ok (.iinc 3 1, 3) := by decide +kernel
theorem dX1_lettersApart_31 : decode cX1_lettersApart 31 = .ok (.goto (-24), 3) := by decide +kernel
theorem dX1_lettersApart_34 : decode cX1_lettersApart 34 = .ok (.aload_n 0, 1) := by decide +kernel
theorem dX1_lettersApart_35 : decode cX1_lettersApart 35 = .ok (.getfield 10, 3) := by decide +kernel
theorem dX1_lettersApart_38 : decode cX1_lettersApart 38 = .ok (.aload_n 1, 1) := by decide +kernel
theorem dX1_lettersApart_39 : decode cX1_lettersApart 39 = .ok (.getfield 20, 3) := by decide +kernel
theorem dX1_lettersApart_42 : decode cX1_lettersApart 42 = .ok (.aload_n 2, 1) := by decide +kernel
theorem dX1_lettersApart_43 : decode cX1_lettersApart 43 = .ok (.getfield 20, 3) := by decide +kernel
theorem dX1_lettersApart_46 : decode cX1_lettersApart 46 = .ok (.invokevirtual 34, 3) := by decide +kernel
theorem dX1_lettersApart_49 : decode cX1_lettersApart 49 = .ok (.ireturn, 1) := by decide +kernel
set_option maxRecDepth 20000 in
theorem ggX1_startRows_X2_put : GoodIn wsX1_startRows wsX2_put := goodIn_r _ [6, 7, 8, 9, 5, 10, 15] (by decide +kernel) (by decide +kernel)
set_option maxRecDepth 20000 in
theorem gX1_startRows_X2_put : GoodIn wsX1_startRows (wsV RX1 38 RX2 yX2_put wsX2_put) := goodIn_app (goodIn_of _ (by decide +kernel)) ggX1_startRows_X2_put
theorem dX1_startRows_0 : decode cX1_startRows 0 = .ok (.iconst 0, 1) := by decide +kernel
theorem dX1_startRows_1 : decode cX1_startRows 1 = .ok (.istore_n 2, 1) := by decide +kernel
theorem dX1_startRows_2 : decode cX1_startRows 2 = .ok (.iload_n 2, 1) := by decide +kernel
theorem dX1_startRows_3 : decode cX1_startRows 3 = .ok (.aload_n 1, 1) := by decide +kernel
theorem dX1_startRows_4 : decode cX1_startRows 4 = .ok (.getfield 20, 3) := by decide +kernel
theorem dX1_startRows_7 : decode cX1_startRows 7 = .ok (.if_icmp .gt 19, 3) := by decide +kernel
theorem dX1_startRows_10 : decode cX1_startRows 10 = .ok (.aload_n 0, 1) := by decide +kernel
theorem dX1_startRows_11 : decode cX1_startRows 11 = .ok (.getfield 10, 3) := by decide +kernel
theorem dX1_startRows_14 : decode cX1_startRows 14 = .ok (.iconst 0, 1) := by decide +kernel
theorem dX1_startRows_15 : decode cX1_startRows 15 = .ok (.iload_n 2, 1) := by decide +kernel
theorem dX1_startRows_16 : decode cX1_startRows 16 = .ok (.iload_n 2, 1) := by decide +kernel
theorem dX1_startRows_17 : decode cX1_startRows 17 = .ok (.invokevirtual 38, 3) := by decide +kernel
theorem dX1_startRows_20 : decode cX1_startRows 20 = .ok (.iinc 2 1, 3) := by decide +kernel
theorem dX1_startRows_23 : decode cX1_startRows 23 = .ok (.goto (-21), 3) := by decide +kernel
theorem dX1_startRows_26 : decode cX1_startRows 26 = .ok (.return_, 1) := by decide +kernel
set_option maxRecDepth 20000 in
theorem ggX1_fillRow_X2_put : GoodIn wsX1_fillRow wsX2_put := goodIn_r _ [10, 11, 12, 13, 9, 14, 31] (by decide +kernel) (by decide +kernel)
set_option maxRecDepth 20000 in
theorem gX1_fillRow_X2_put : GoodIn wsX1_fillRow (wsV RX1 38 RX2 yX2_put wsX2_put) := goodIn_app (goodIn_of _ (by decide +kernel)) ggX1_fillRow_X2_put
set_option maxRecDepth 20000 in
theorem ggX1_fillRow_X2_at : GoodIn wsX1_fillRow wsX2_at := goodIn_r _ [18, 11, 12, 13, 9, 14, 31] (by decide +kernel) (by decide +kernel)
set_option maxRecDepth 20000 in
theorem gX1_fillRow_X2_at : GoodIn wsX1_fillRow (wsV RX1 34 RX2 yX2_at wsX2_at) := goodIn_app (goodIn_of _ (by decide +kernel)) ggX1_fillRow_X2_at
set_option maxRecDepth 20000 in
theorem ggX1_fillRow_X8_letterAt : GoodIn wsX1_fillRow wsX8_letterAt := goodIn_r _ [23, 24, 25, 26, 28, 29, 30] (by decide +kernel) (by decide +kernel)
set_option maxRecDepth 20000 in
theorem gX1_fillRow_X8_letterAt : GoodIn wsX1_fillRow (wsV RX1 26 RX8 yX8_letterAt wsX8_letterAt) := goodIn_app (goodIn_of _ (by decide +kernel)) ggX1_fillRow_X8_letterAt
theorem dX1_fillRow_0 : decode cX1_fillRow 0 = .ok (.aload_n 0, 1) := by decide +kernel
theorem dX1_fillRow_1 : decode cX1_fillRow 1 = .ok (.getfield 10, 3) := by decide +kernel
theorem dX1_fillRow_4 : decode cX1_fillRow 4 = .ok (.iload_n 1, 1) := by decide +kernel
theorem dX1_fillRow_5 : decode cX1_fillRow 5 = .ok (.iconst 0, 1) := by decide +kernel
theorem dX1_fillRow_6 : decode cX1_fillRow 6 = .ok (.iload_n 1, 1) := by decide +kernel
theorem dX1_fillRow_7 : decode cX1_fillRow 7 = .ok (.invokevirtual 38, 3) := by decide +kernel
theorem dX1_fillRow_10 : decode cX1_fillRow 10 = .ok (.iconst 1, 1) := by decide +kernel
theorem dX1_fillRow_11 : decode cX1_fillRow 11 = .ok (.istore 4, 2) := by decide +kernel
theorem dX1_fillRow_13 : decode cX1_fillRow 13 = .ok (.iload 4, 2) := by decide +kernel
theorem dX1_fillRow_15 : decode cX1_fillRow 15 = .ok (.aload_n 3, 1) := by decide +kernel
theorem dX1_fillRow_16 : decode cX1_fillRow 16 = .ok (.getfield 20, 3) := by decide +kernel
theorem dX1_fillRow_19 : decode cX1_fillRow 19 = .ok (.if_icmp .gt 97, 3) := by decide +kernel
theorem dX1_fillRow_22 : decode cX1_fillRow 22 = .ok (.aload_n 0, 1) := by decide +kernel
theorem dX1_fillRow_23 : decode cX1_fillRow 23 = .ok (.getfield 10, 3) := by decide +kernel
theorem dX1_fillRow_26 : decode cX1_fillRow 26 = .ok (.iload_n 1, 1) := by decide +kernel
theorem dX1_fillRow_27 : decode cX1_fillRow 27 = .ok (.iconst 1, 1) := by decide +kernel
theorem dX1_fillRow_28 : decode cX1_fillRow 28 = .ok (.isub, 1) := by decide +kernel
theorem dX1_fillRow_29 : decode cX1_fillRow 29 = .ok (.iload 4, 2) := by decide +kernel
theorem dX1_fillRow_31 : decode cX1_fillRow 31 = .ok (.iconst 1, 1) := by decide +kernel
theorem dX1_fillRow_32 : decode cX1_fillRow 32 = .ok (.isub, 1) := by decide +kernel
theorem dX1_fillRow_33 : decode cX1_fillRow 33 = .ok (.invokevirtual 34, 3) := by decide +kernel
theorem dX1_fillRow_36 : decode cX1_fillRow 36 = .ok (.iload_n 2, 1) := by decide +kernel
theorem dX1_fillRow_37 : decode cX1_fillRow 37 = .ok (.aload_n 3, 1) := by decide +kernel
theorem dX1_fillRow_38 : decode cX1_fillRow 38 = .ok (.iload 4, 2) := by decide +kernel
theorem dX1_fillRow_40 : decode cX1_fillRow 40 = .ok (.iconst 1, 1) := by decide +kernel
theorem dX1_fillRow_41 : decode cX1_fillRow 41 = .ok (.isub, 1) := by decide +kernel
theorem dX1_fillRow_42 : decode cX1_fillRow 42 = .ok (.invokevirtual 26, 3) := by decide +kernel
theorem dX1_fillRow_45 : decode cX1_fillRow 45 = .ok (.if_icmp .ne 7, 3) := by decide +kernel
theorem dX1_fillRow_48 : decode cX1_fillRow 48 = .ok (.iconst 0, 1) := by decide +kernel
theorem dX1_fillRow_49 : decode cX1_fillRow 49 = .ok (.goto 4, 3) := by decide +kernel
theorem dX1_fillRow_52 : decode cX1_fillRow 52 = .ok (.iconst 1, 1) := by decide +kernel
theorem dX1_fillRow_53 : decode cX1_fillRow 53 = .ok (.iadd, 1) := by decide +kernel
theorem dX1_fillRow_54 : decode cX1_fillRow 54 = .ok (.istore 5, 2) := by decide +kernel
theorem dX1_fillRow_56 : decode cX1_fillRow 56 = .ok (.aload_n 0, 1) := by decide +kernel
theorem dX1_fillRow_57 : decode cX1_fillRow 57 = .ok (.getfield 10, 3) := by decide +kernel
theorem dX1_fillRow_60 : decode cX1_fillRow 60 = .ok (.iload_n 1, 1) := by decide +kernel
theorem dX1_fillRow_61 : decode cX1_fillRow 61 = .ok (.iload 4, 2) := by decide +kernel
theorem dX1_fillRow_63 : decode cX1_fillRow 63 = .ok (.iconst 1, 1) := by decide +kernel
theorem dX1_fillRow_64 : decode cX1_fillRow 64 = .ok (.isub, 1) := by decide +kernel
theorem dX1_fillRow_65 : decode cX1_fillRow 65 = .ok (.invokevirtual 34, 3) := by decide +kernel
theorem dX1_fillRow_68 : decode cX1_fillRow 68 = .ok (.iconst 1, 1) := by decide +kernel
theorem dX1_fillRow_69 : decode cX1_fillRow 69 = .ok (.iadd, 1) := by decide +kernel
theorem dX1_fillRow_70 : decode cX1_fillRow 70 = .ok (.istore 6, 2) := by decide +kernel
theorem dX1_fillRow_72 : decode cX1_fillRow 72 = .ok (.aload_n 0, 1) := by decide +kernel
theorem dX1_fillRow_73 : decode cX1_fillRow 73 = .ok (.getfield 10, 3) := by decide +kernel
theorem dX1_fillRow_76 : decode cX1_fillRow 76 = .ok (.iload_n 1, 1) := by decide +kernel
theorem dX1_fillRow_77 : decode cX1_fillRow 77 = .ok (.iconst 1, 1) := by decide +kernel
theorem dX1_fillRow_78 : decode cX1_fillRow 78 = .ok (.isub, 1) := by decide +kernel
theorem dX1_fillRow_79 : decode cX1_fillRow 79 = .ok (.iload 4, 2) := by decide +kernel
theorem dX1_fillRow_81 : decode cX1_fillRow 81 = .ok (.invokevirtual 34, 3) := by decide +kernel
theorem dX1_fillRow_84 : decode cX1_fillRow 84 = .ok (.iconst 1, 1) := by decide +kernel
theorem dX1_fillRow_85 : decode cX1_fillRow 85 = .ok (.iadd, 1) := by decide +kernel
theorem dX1_fillRow_86 : decode cX1_fillRow 86 = .ok (.istore 7, 2) := by decide +kernel
theorem dX1_fillRow_88 : decode cX1_fillRow 88 = .ok (.aload_n 0, 1) := by decide +kernel
theorem dX1_fillRow_89 : decode cX1_fillRow 89 = .ok (.getfield 10, 3) := by decide +kernel
theorem dX1_fillRow_92 : decode cX1_fillRow 92 = .ok (.iload_n 1, 1) := by decide +kernel
theorem dX1_fillRow_93 : decode cX1_fillRow 93 = .ok (.iload 4, 2) := by decide +kernel
theorem dX1_fillRow_95 : decode cX1_fillRow 95 = .ok (.iload 5, 2) := by decide +kernel
theorem dX1_fillRow_97 : decode cX1_fillRow 97 = .ok (.iload 6, 2) := by decide +kernel
theorem dX1_fillRow_99 : decode cX1_fillRow 99 = .ok (.iload 7, 2) := by decide +kernel
theorem dX1_fillRow_101 : decode cX1_fillRow 101 = .ok (.invokestatic 42, 3) := by decide +kernel
theorem dX1_fillRow_104 : decode cX1_fillRow 104 = .ok (.invokestatic 42, 3) := by decide +kernel
theorem dX1_fillRow_107 : decode cX1_fillRow 107 = .ok (.invokevirtual 38, 3) := by decide +kernel
theorem dX1_fillRow_110 : decode cX1_fillRow 110 = .ok (.iinc 4 1, 3) := by decide +kernel
theorem dX1_fillRow_113 : decode cX1_fillRow 113 = .ok (.goto (-100), 3) := by decide +kernel
theorem dX1_fillRow_116 : decode cX1_fillRow 116 = .ok (.return_, 1) := by decide +kernel
set_option maxRecDepth 20000 in
theorem ggX1_leastInRow_X2_at : GoodIn wsX1_leastInRow wsX2_at := goodIn_r _ [10, 11, 12, 13, 9, 14, 19] (by decide +kernel) (by decide +kernel)
set_option maxRecDepth 20000 in
theorem gX1_leastInRow_X2_at : GoodIn wsX1_leastInRow (wsV RX1 34 RX2 yX2_at wsX2_at) := goodIn_app (goodIn_of _ (by decide +kernel)) ggX1_leastInRow_X2_at
theorem dX1_leastInRow_0 : decode cX1_leastInRow 0 = .ok (.aload_n 0, 1) := by decide +kernel
theorem dX1_leastInRow_1 : decode cX1_leastInRow 1 = .ok (.getfield 10, 3) := by decide +kernel
theorem dX1_leastInRow_4 : decode cX1_leastInRow 4 = .ok (.iload_n 1, 1) := by decide +kernel
theorem dX1_leastInRow_5 : decode cX1_leastInRow 5 = .ok (.iconst 0, 1) := by decide +kernel
theorem dX1_leastInRow_6 : decode cX1_leastInRow 6 = .ok (.invokevirtual 34, 3) := by decide +kernel
theorem dX1_leastInRow_9 : decode cX1_leastInRow 9 = .ok (.istore_n 3, 1) := by decide +kernel
theorem dX1_leastInRow_10 : decode cX1_leastInRow 10 = .ok (.iconst 1, 1) := by decide +kernel
theorem dX1_leastInRow_11 : decode cX1_leastInRow 11 = .ok (.istore 4, 2) := by decide +kernel
theorem dX1_leastInRow_13 : decode cX1_leastInRow 13 = .ok (.iload 4, 2) := by decide +kernel
theorem dX1_leastInRow_15 : decode cX1_leastInRow 15 = .ok (.aload_n 2, 1) := by decide +kernel
theorem dX1_leastInRow_16 : decode cX1_leastInRow 16 = .ok (.getfield 20, 3) := by decide +kernel
theorem dX1_leastInRow_19 : decode cX1_leastInRow 19 = .ok (.if_icmp .gt 24, 3) := by decide +kernel
theorem dX1_leastInRow_22 : decode cX1_leastInRow 22 = .ok (.iload_n 3, 1) := by decide +kernel
theorem dX1_leastInRow_23 : decode cX1_leastInRow 23 = .ok (.aload_n 0, 1) := by decide +kernel
theorem dX1_leastInRow_24 : decode cX1_leastInRow 24 = .ok (.getfield 10, 3) := by decide +kernel
theorem dX1_leastInRow_27 : decode cX1_leastInRow 27 = .ok (.iload_n 1, 1) := by decide +kernel
theorem dX1_leastInRow_28 : decode cX1_leastInRow 28 = .ok (.iload 4, 2) := by decide +kernel
theorem dX1_leastInRow_30 : decode cX1_leastInRow 30 = .ok (.invokevirtual 34, 3) := by decide +kernel
theorem dX1_leastInRow_33 : decode cX1_leastInRow 33 = .ok (.invokestatic 42, 3) := by decide +kernel
theorem dX1_leastInRow_36 : decode cX1_leastInRow 36 = .ok (.istore_n 3, 1) := by decide +kernel
theorem dX1_leastInRow_37 : decode cX1_leastInRow 37 = .ok (.iinc 4 1, 3) := by decide +kernel
theorem dX1_leastInRow_40 : decode cX1_leastInRow 40 = .ok (.goto (-27), 3) := by decide +kernel
theorem dX1_leastInRow_43 : decode cX1_leastInRow 43 = .ok (.iload_n 3, 1) := by decide +kernel
theorem dX1_leastInRow_44 : decode cX1_leastInRow 44 = .ok (.ireturn, 1) := by decide +kernel
set_option maxRecDepth 20000 in
theorem ggX1_packedRow_X2_at : GoodIn wsX1_packedRow wsX2_at := goodIn_r _ [10, 11, 12, 13, 9, 14, 19] (by decide +kernel) (by decide +kernel)
set_option maxRecDepth 20000 in
theorem gX1_packedRow_X2_at : GoodIn wsX1_packedRow (wsV RX1 34 RX2 yX2_at wsX2_at) := goodIn_app (goodIn_of _ (by decide +kernel)) ggX1_packedRow_X2_at
theorem dX1_packedRow_0 : decode cX1_packedRow 0 = .ok (.lconst 0, 1) := by decide +kernel
theorem dX1_packedRow_1 : decode cX1_packedRow 1 = .ok (.lstore 4, 2) := by decide +kernel
theorem dX1_packedRow_3 : decode cX1_packedRow 3 = .ok (.iconst 0, 1) := by decide +kernel
theorem dX1_packedRow_4 : decode cX1_packedRow 4 = .ok (.istore 6, 2) := by decide +kernel
theorem dX1_packedRow_6 : decode cX1_packedRow 6 = .ok (.iload 6, 2) := by decide +kernel
theorem dX1_packedRow_8 : decode cX1_packedRow 8 = .ok (.aload_n 2, 1) := by decide +kernel
theorem dX1_packedRow_9 : decode cX1_packedRow 9 = .ok (.getfield 20, 3) := by decide +kernel
theorem dX1_packedRow_12 : decode cX1_packedRow 12 = .ok (.if_icmp .gt 31, 3) := by decide +kernel
theorem dX1_packedRow_15 : decode cX1_packedRow 15 = .ok (.lload 4, 2) := by decide +kernel
theorem dX1_packedRow_17 : decode cX1_packedRow 17 = .ok (.iconst 3, 1) := by decide +kernel
theorem dX1_packedRow_18 : decode cX1_packedRow 18 = .ok (.lshl, 1) := by decide +kernel
theorem dX1_packedRow_19 : decode cX1_packedRow 19 = .ok (.aload_n 0, 1) := by decide +kernel
theorem dX1_packedRow_20 : decode cX1_packedRow 20 = .ok (.getfield 10, 3) := by decide +kernel
theorem dX1_packedRow_23 : decode cX1_packedRow 23 = .ok (.iload_n 1, 1) := by decide +kernel
theorem dX1_packedRow_24 : decode cX1_packedRow 24 = .ok (.iload 6, 2) := by decide +kernel
theorem dX1_packedRow_26 : decode cX1_packedRow 26 = .ok (.invokevirtual 34, 3) := by decide +kernel
theorem dX1_packedRow_29 : decode cX1_packedRow 29 = .ok (.iload_n 3, 1) := by decide +kernel
theorem dX1_packedRow_30 : decode cX1_packedRow 30 = .ok (.invokestatic 42, 3) := by decide +kernel
theorem dX1_packedRow_33 : decode cX1_packedRow 33 = .ok (.i2l, 1) := by decide +kernel
theorem dX1_packedRow_34 : decode cX1_packedRow 34 = .ok (.lor, 1) := by decide +kernel
theorem dX1_packedRow_35 : decode cX1_packedRow 35 = .ok (.lstore 4, 2) := by decide +kernel
theorem dX1_packedRow_37 : decode cX1_packedRow 37 = .ok (.iinc 6 1, 3) := by decide +kernel
theorem dX1_packedRow_40 : decode cX1_packedRow 40 = .ok (.goto (-34), 3) := by decide +kernel
theorem dX1_packedRow_43 : decode cX1_packedRow 43 = .ok (.lload 4, 2) := by decide +kernel
theorem dX1_packedRow_45 : decode cX1_packedRow 45 = .ok (.lreturn, 1) := by decide +kernel
set_option maxRecDepth 20000 in
theorem ggX1_lettersShared_X1_mostShared : GoodIn wsX1_lettersShared wsX1_mostShared := goodIn_r _ [6, 1, 7, 8, 9, 10, 11, 12, 13, 14, 15, 16, 17, 18, 19, 20, 21, 22, 23, 24, 25, 26, 27, 35, 32, 33, 34, 36] (by decide +kernel) (by decide +kernel)
set_option maxRecDepth 20000 in
theorem gX1_lettersShared_X1_mostShared : GoodIn wsX1_lettersShared (wsV RX1 47 RX1 yX1_mostShared wsX1_mostShared) := goodIn_app (goodIn_of _ (by decide +kernel)) ggX1_lettersShared_X1_mostShared
set_option maxRecDepth 20000 in
theorem ggX1_lettersShared_X2_put : GoodIn wsX1_lettersShared wsX2_put := goodIn_r _ [31, 24, 25, 26, 22, 27, 36] (by decide +kernel) (by decide +kernel)
set_option maxRecDepth 20000 in
theorem gX1_lettersShared_X2_put : GoodIn wsX1_lettersShared (wsV RX1 38 RX2 yX2_put wsX2_put) := goodIn_app (goodIn_of _ (by decide +kernel)) ggX1_lettersShared_X2_put
set_option maxRecDepth 20000 in
theorem ggX1_lettersShared_X2_at : GoodIn wsX1_lettersShared wsX2_at := goodIn_r _ [23, 24, 25, 26, 22, 27, 36] (by decide +kernel) (by decide +kernel)
set_option maxRecDepth 20000 in
theorem gX1_lettersShared_X2_at : GoodIn wsX1_lettersShared (wsV RX1 34 RX2 yX2_at wsX2_at) := goodIn_app (goodIn_of _ (by decide +kernel)) ggX1_lettersShared_X2_at
theorem dX1_lettersShared_0 : decode cX1_lettersShared 0 = .ok (.iconst 0, 1) := by decide +kernel
theorem dX1_lettersShared_1 : decode cX1_lettersShared 1 = .ok (.istore_n 3, 1) := by decide +kernel
theorem dX1_lettersShared_2 : decode cX1_lettersShared 2 = .ok (.iload_n 3, 1) := by decide +kernel
theorem dX1_lettersShared_3 : decode cX1_lettersShared 3 = .ok (.aload_n 1, 1) := by decide +kernel
theorem dX1_lettersShared_4 : decode cX1_lettersShared 4 = .ok (.getfield 20, 3) := by decide +kernel
theorem dX1_lettersShared_7 : decode cX1_lettersShared 7 = .ok (.if_icmp .gt 46, 3) := by decide +kernel
theorem dX1_lettersShared_10 : decode cX1_lettersShared 10 = .ok (.iconst 0, 1) := by decide +kernel
theorem dX1_lettersShared_11 : decode cX1_lettersShared 11 = .ok (.istore 4, 2) := by decide +kernel
theorem dX1_lettersShared_13 : decode cX1_lettersShared 13 = .ok (.iload 4, 2) := by decide +kernel
theorem dX1_lettersShared_15 : decode cX1_lettersShared 15 = .ok (.aload_n 2, 1) := by decide +kernel
theorem dX1_lettersShared_16 : decode cX1_lettersShared 16 = .ok (.getfield 20, 3) := by decide +kernel
theorem dX1_lettersShared_19 : decode cX1_lettersShared 19 = .ok (.if_icmp .gt 28, 3) := by decide +kernel
theorem dX1_lettersShared_22 : decode cX1_lettersShared 22 = .ok (.aload_n 0, 1) := by decide +kernel
theorem dX1_lettersShared_23 : decode cX1_lettersShared 23 = .ok (.getfield 10, 3) := by decide +kernel
theorem dX1_lettersShared_26 : decode cX1_lettersShared 26 = .ok (.iload_n 3, 1) := by decide +kernel
theorem dX1_lettersShared_27 : decode cX1_lettersShared 27 = .ok (.iload 4, 2) := by decide +kernel
theorem dX1_lettersShared_29 : decode cX1_lettersShared 29 = .ok (.aload_n 0, 1) := by decide +kernel
theorem dX1_lettersShared_30 : decode cX1_lettersShared 30 = .ok (.aload_n 1, 1) := by decide +kernel
theorem dX1_lettersShared_31 : decode cX1_lettersShared 31 = .ok (.aload_n 2, 1) := by decide +kernel
theorem dX1_lettersShared_32 : decode cX1_lettersShared 32 = .ok (.iload_n 3, 1) := by decide +kernel
theorem dX1_lettersShared_33 : decode cX1_lettersShared 33 = .ok (.iload 4, 2) := by decide +kernel
theorem dX1_lettersShared_35 : decode cX1_lettersShared 35 = .ok (.invokevirtual 47, 3) := by decide +kernel
theorem dX1_lettersShared_38 : decode cX1_lettersShared 38 = .ok (.invokevirtual 38, 3) := by decide +kernel
theorem dX1_lettersShared_41 : decode cX1_lettersShared 41 = .ok (.iinc 4 1, 3) := by decide +kernel
theorem dX1_lettersShared_44 : decode cX1_lettersShared 44 = .ok (.goto (-31), 3) := by decide +kernel
theorem dX1_lettersShared_47 : decode cX1_lettersShared 47 = .ok (.iinc 3 1, 3) := by decide +kernel
theorem dX1_lettersShared_50 : decode cX1_lettersShared 50 = .ok (.goto (-48), 3) := by decide +kernel
theorem dX1_lettersShared_53 : decode cX1_lettersShared 53 = .ok (.aload_n 0, 1) := by decide +kernel
theorem dX1_lettersShared_54 : decode cX1_lettersShared 54 = .ok (.getfield 10, 3) := by decide +kernel
theorem dX1_lettersShared_57 : decode cX1_lettersShared 57 = .ok (.aload_n 1, 1) := by decide +kernel
theorem dX1_lettersShared_58 : decode cX1_lettersShared 58 = .ok (.getfield 20, 3) := by decide +kernel
theorem dX1_lettersShared_61 : decode cX1_lettersShared 61 = .ok (.aload_n 2, 1) := by decide +kernel
theorem dX1_lettersShared_62 : decode cX1_lettersShared 62 = .ok (.getfield 20, 3) := by decide +kernel
theorem dX1_lettersShared_65 : decode cX1_lettersShared 65 = .ok (.invokevirtual 34, 3) := by decide +kernel
theorem dX1_lettersShared_68 : decode cX1_lettersShared 68 = .ok (.ireturn, 1) := by decide +kernel
set_option maxRecDepth 20000 in
theorem ggX1_cheapest_X1_leastPrice : GoodIn wsX1_cheapest wsX1_leastPrice := goodIn_r _ [6, 1, 7, 8, 9, 10, 11, 12, 13, 14, 15, 16, 17, 18, 19, 20, 21, 5, 22, 23, 24, 25, 26, 27, 28, 29, 30, 31, 32, 33, 34, 35, 36, 37, 38, 39, 40, 41, 42, 43, 44, 45, 53, 54, 50, 51, 52] (by decide +kernel) (by decide +kernel)
set_option maxRecDepth 20000 in
theorem gX1_cheapest_X1_leastPrice : GoodIn wsX1_cheapest (wsV RX1 51 RX1 yX1_leastPrice wsX1_leastPrice) := goodIn_app (goodIn_of _ (by decide +kernel)) ggX1_cheapest_X1_leastPrice
set_option maxRecDepth 20000 in
theorem ggX1_cheapest_X2_put : GoodIn wsX1_cheapest wsX2_put := goodIn_r _ [49, 16, 17, 18, 14, 19, 54] (by decide +kernel) (by decide +kernel)
set_option maxRecDepth 20000 in
theorem gX1_cheapest_X2_put : GoodIn wsX1_cheapest (wsV RX1 38 RX2 yX2_put wsX2_put) := goodIn_app (goodIn_of _ (by decide +kernel)) ggX1_cheapest_X2_put
set_option maxRecDepth 20000 in
theorem ggX1_cheapest_X2_at : GoodIn wsX1_cheapest wsX2_at := goodIn_r _ [15, 16, 17, 18, 14, 19, 54] (by decide +kernel) (by decide +kernel)
set_option maxRecDepth 20000 in
theorem gX1_cheapest_X2_at : GoodIn wsX1_cheapest (wsV RX1 34 RX2 yX2_at wsX2_at) := goodIn_app (goodIn_of _ (by decide +kernel)) ggX1_cheapest_X2_at
theorem dX1_cheapest_0 : decode cX1_cheapest 0 = .ok (.iconst 0, 1) := by decide +kernel
theorem dX1_cheapest_1 : decode cX1_cheapest 1 = .ok (.istore_n 3, 1) := by decide +kernel
theorem dX1_cheapest_2 : decode cX1_cheapest 2 = .ok (.iload_n 3, 1) := by decide +kernel
theorem dX1_cheapest_3 : decode cX1_cheapest 3 = .ok (.aload_n 1, 1) := by decide +kernel
theorem dX1_cheapest_4 : decode cX1_cheapest 4 = .ok (.getfield 20, 3) := by decide +kernel
theorem dX1_cheapest_7 : decode cX1_cheapest 7 = .ok (.if_icmp .gt 46, 3) := by decide +kernel
theorem dX1_cheapest_10 : decode cX1_cheapest 10 = .ok (.iconst 0, 1) := by decide +kernel
theorem dX1_cheapest_11 : decode cX1_cheapest 11 = .ok (.istore 4, 2) := by decide +kernel
theorem dX1_cheapest_13 : decode cX1_cheapest 13 = .ok (.iload 4, 2) := by decide +kernel
theorem dX1_cheapest_15 : decode cX1_cheapest 15 = .ok (.aload_n 2, 1) := by decide +kernel
theorem dX1_cheapest_16 : decode cX1_cheapest 16 = .ok (.getfield 20, 3) := by decide +kernel
theorem dX1_cheapest_19 : decode cX1_cheapest 19 = .ok (.if_icmp .gt 28, 3) := by decide +kernel
theorem dX1_cheapest_22 : decode cX1_cheapest 22 = .ok (.aload_n 0, 1) := by decide +kernel
theorem dX1_cheapest_23 : decode cX1_cheapest 23 = .ok (.getfield 10, 3) := by decide +kernel
theorem dX1_cheapest_26 : decode cX1_cheapest 26 = .ok (.iload_n 3, 1) := by decide +kernel
theorem dX1_cheapest_27 : decode cX1_cheapest 27 = .ok (.iload 4, 2) := by decide +kernel
theorem dX1_cheapest_29 : decode cX1_cheapest 29 = .ok (.aload_n 0, 1) := by decide +kernel
theorem dX1_cheapest_30 : decode cX1_cheapest 30 = .ok (.aload_n 1, 1) := by decide +kernel
theorem dX1_cheapest_31 : decode cX1_cheapest 31 = .ok (.aload_n 2, 1) := by decide +kernel
theorem dX1_cheapest_32 : decode cX1_cheapest 32 = .ok (.iload_n 3, 1) := by decide +kernel
theorem dX1_cheapest_33 : decode cX1_cheapest 33 = .ok (.iload 4, 2) := by decide +kernel
theorem dX1_cheapest_35 : decode cX1_cheapest 35 = .ok (.invokevirtual 51, 3) := by decide +kernel
theorem dX1_cheapest_38 : decode cX1_cheapest 38 = .ok (.invokevirtual 38, 3) := by decide +kernel
theorem dX1_cheapest_41 : decode cX1_cheapest 41 = .ok (.iinc 4 1, 3) := by decide +kernel
theorem dX1_cheapest_44 : decode cX1_cheapest 44 = .ok (.goto (-31), 3) := by decide +kernel
theorem dX1_cheapest_47 : decode cX1_cheapest 47 = .ok (.iinc 3 1, 3) := by decide +kernel
theorem dX1_cheapest_50 : decode cX1_cheapest 50 = .ok (.goto (-48), 3) := by decide +kernel
theorem dX1_cheapest_53 : decode cX1_cheapest 53 = .ok (.aload_n 0, 1) := by decide +kernel
theorem dX1_cheapest_54 : decode cX1_cheapest 54 = .ok (.getfield 10, 3) := by decide +kernel
theorem dX1_cheapest_57 : decode cX1_cheapest 57 = .ok (.aload_n 1, 1) := by decide +kernel
theorem dX1_cheapest_58 : decode cX1_cheapest 58 = .ok (.getfield 20, 3) := by decide +kernel
theorem dX1_cheapest_61 : decode cX1_cheapest 61 = .ok (.aload_n 2, 1) := by decide +kernel
theorem dX1_cheapest_62 : decode cX1_cheapest 62 = .ok (.getfield 20, 3) := by decide +kernel
theorem dX1_cheapest_65 : decode cX1_cheapest 65 = .ok (.invokevirtual 34, 3) := by decide +kernel
theorem dX1_cheapest_68 : decode cX1_cheapest 68 = .ok (.ireturn, 1) := by decide +kernel
set_option maxRecDepth 20000 in
theorem ggX1_mostShared_X8_letterAt : GoodIn wsX1_mostShared wsX8_letterAt := goodIn_r _ [10, 11, 12, 13, 24, 25, 26] (by decide +kernel) (by decide +kernel)
set_option maxRecDepth 20000 in
theorem gX1_mostShared_X8_letterAt : GoodIn wsX1_mostShared (wsV RX1 26 RX8 yX8_letterAt wsX8_letterAt) := goodIn_app (goodIn_of _ (by decide +kernel)) ggX1_mostShared_X8_letterAt
set_option maxRecDepth 20000 in
theorem ggX1_mostShared_X2_at : GoodIn wsX1_mostShared wsX2_at := goodIn_r _ [18, 19, 20, 21, 17, 22, 27] (by decide +kernel) (by decide +kernel)
set_option maxRecDepth 20000 in
theorem gX1_mostShared_X2_at : GoodIn wsX1_mostShared (wsV RX1 34 RX2 yX2_at wsX2_at) := goodIn_app (goodIn_of _ (by decide +kernel)) ggX1_mostShared_X2_at
theorem dX1_mostShared_0 : decode cX1_mostShared 0 = .ok (.iload_n 3, 1) := by decide +kernel
theorem dX1_mostShared_1 : decode cX1_mostShared 1 = .ok (.ifCond .eq 8, 3) := by decide +kernel
theorem dX1_mostShared_4 : decode cX1_mostShared 4 = .ok (.iload 4, 2) := by decide +kernel
theorem dX1_mostShared_6 : decode cX1_mostShared 6 = .ok (.ifCond .ne 5, 3) := by decide +kernel
theorem dX1_mostShared_9 : decode cX1_mostShared 9 = .ok (.iconst 0, 1) := by decide +kernel
theorem dX1_mostShared_10 : decode cX1_mostShared 10 = .ok (.ireturn, 1) := by decide +kernel
theorem dX1_mostShared_11 : decode cX1_mostShared 11 = .ok (.aload_n 1, 1) := by decide +kernel
theorem dX1_mostShared_12 : decode cX1_mostShared 12 = .ok (.iload_n 3, 1) := by decide +kernel
theorem dX1_mostShared_13 : decode cX1_mostShared 13 = .ok (.iconst 1, 1) := by decide +kernel
theorem dX1_mostShared_14 : decode cX1_mostShared 14 = .ok (.isub, 1) := by decide +kernel
theorem dX1_mostShared_15 : decode cX1_mostShared 15 = .ok (.invokevirtual 26, 3) := by decide +kernel
theorem dX1_mostShared_18 : decode cX1_mostShared 18 = .ok (.aload_n 2, 1) := by decide +kernel
theorem dX1_mostShared_19 : decode cX1_mostShared 19 = .ok (.iload 4, 2) := by decide +kernel
theorem dX1_mostShared_21 : decode cX1_mostShared 21 = .ok (.iconst 1, 1) := by decide +kernel
theorem dX1_mostShared_22 : decode cX1_mostShared 22 = .ok (.isub, 1) := by decide +kernel
theorem dX1_mostShared_23 : decode cX1_mostShared 23 = .ok (.invokevirtual 26, 3) := by decide +kernel
theorem dX1_mostShared_26 : decode cX1_mostShared 26 = .ok (.if_icmp .ne 20, 3) := by decide +kernel
theorem dX1_mostShared_29 : decode cX1_mostShared 29 = .ok (.aload_n 0, 1) := by decide +kernel
theorem dX1_mostShared_30 : decode cX1_mostShared 30 = .ok (.getfield 10, 3) := by decide +kernel
theorem dX1_mostShared_33 : decode cX1_mostShared 33 = .ok (.iload_n 3, 1) := by decide +kernel
theorem dX1_mostShared_34 : decode cX1_mostShared 34 = .ok (.iconst 1, 1) := by decide +kernel
theorem dX1_mostShared_35 : decode cX1_mostShared 35 = .ok (.isub, 1) := by decide +kernel
theorem dX1_mostShared_36 : decode cX1_mostShared 36 = .ok (.iload 4, 2) := by decide +kernel
theorem dX1_mostShared_38 : decode cX1_mostShared 38 = .ok (.iconst 1, 1) := by decide +kernel
theorem dX1_mostShared_39 : decode cX1_mostShared 39 = .ok (.isub, 1) := by decide +kernel
theorem dX1_mostShared_40 : decode cX1_mostShared 40 = .ok (.invokevirtual 34, 3) := by decide +kernel
theorem dX1_mostShared_43 : decode cX1_mostShared 43 = .ok (.iconst 1, 1) := by decide +kernel
theorem dX1_mostShared_44 : decode cX1_mostShared 44 = .ok (.iadd, 1) := by decide +kernel
theorem dX1_mostShared_45 : decode cX1_mostShared 45 = .ok (.ireturn, 1) := by decide +kernel
theorem dX1_mostShared_46 : decode cX1_mostShared 46 = .ok (.aload_n 0, 1) := by decide +kernel
theorem dX1_mostShared_47 : decode cX1_mostShared 47 = .ok (.getfield 10, 3) := by decide +kernel
theorem dX1_mostShared_50 : decode cX1_mostShared 50 = .ok (.iload_n 3, 1) := by decide +kernel
theorem dX1_mostShared_51 : decode cX1_mostShared 51 = .ok (.iconst 1, 1) := by decide +kernel
theorem dX1_mostShared_52 : decode cX1_mostShared 52 = .ok (.isub, 1) := by decide +kernel
theorem dX1_mostShared_53 : decode cX1_mostShared 53 = .ok (.iload 4, 2) := by decide +kernel
theorem dX1_mostShared_55 : decode cX1_mostShared 55 = .ok (.invokevirtual 34, 3) := by decide +kernel
theorem dX1_mostShared_58 : decode cX1_mostShared 58 = .ok (.aload_n 0, 1) := by decide +kernel
theorem dX1_mostShared_59 : decode cX1_mostShared 59 = .ok (.getfield 10, 3) := by decide +kernel
theorem dX1_mostShared_62 : decode cX1_mostShared 62 = .ok (.iload_n 3, 1) := by decide +kernel
theorem dX1_mostShared_63 : decode cX1_mostShared 63 = .ok (.iload 4, 2) := by decide +kernel
theorem dX1_mostShared_65 : decode cX1_mostShared 65 = .ok (.iconst 1, 1) := by decide +kernel
theorem dX1_mostShared_66 : decode cX1_mostShared 66 = .ok (.isub, 1) := by decide +kernel
theorem dX1_mostShared_67 : decode cX1_mostShared 67 = .ok (.invokevirtual 34, 3) := by decide +kernel
theorem dX1_mostShared_70 : decode cX1_mostShared 70 = .ok (.invokestatic 54, 3) := by decide +kernel
theorem dX1_mostShared_73 : decode cX1_mostShared 73 = .ok (.ireturn, 1) := by decide +kernel
set_option maxRecDepth 20000 in
theorem ggX1_leastPrice_X2_at : GoodIn wsX1_leastPrice wsX2_at := goodIn_r _ [10, 11, 12, 13, 9, 14, 43] (by decide +kernel) (by decide +kernel)
set_option maxRecDepth 20000 in
theorem gX1_leastPrice_X2_at : GoodIn wsX1_leastPrice (wsV RX1 34 RX2 yX2_at wsX2_at) := goodIn_app (goodIn_of _ (by decide +kernel)) ggX1_leastPrice_X2_at
set_option maxRecDepth 20000 in
theorem ggX1_leastPrice_X1_deletionPrice : GoodIn wsX1_leastPrice wsX1_deletionPrice := goodIn_r _ [18, 19, 20, 21, 22, 23, 24, 25, 26, 44, 45, 46] (by decide +kernel) (by decide +kernel)
set_option maxRecDepth 20000 in
theorem gX1_leastPrice_X1_deletionPrice : GoodIn wsX1_leastPrice (va_wsS RX1 57 yX1_deletionPrice wsX1_deletionPrice) := goodIn_app (goodIn_of _ (by decide +kernel)) ggX1_leastPrice_X1_deletionPrice
set_option maxRecDepth 20000 in
theorem ggX1_leastPrice_X8_letterAt : GoodIn wsX1_leastPrice wsX8_letterAt := goodIn_r _ [23, 24, 25, 26, 44, 45, 46] (by decide +kernel) (by decide +kernel)
set_option maxRecDepth 20000 in
theorem gX1_leastPrice_X8_letterAt : GoodIn wsX1_leastPrice (wsV RX1 26 RX8 yX8_letterAt wsX8_letterAt) := goodIn_app (goodIn_of _ (by decide +kernel)) ggX1_leastPrice_X8_letterAt
set_option maxRecDepth 20000 in
theorem ggX1_leastPrice_X1_replacementPrice : GoodIn wsX1_leastPrice wsX1_replacementPrice := goodIn_r _ [29, 30, 31, 32, 33, 34, 35, 36, 37, 38] (by decide +kernel) (by decide +kernel)
set_option maxRecDepth 20000 in
theorem gX1_leastPrice_X1_replacementPrice : GoodIn wsX1_leastPrice (va_wsS RX1 61 yX1_replacementPrice wsX1_replacementPrice) := goodIn_app (goodIn_of _ (by decide +kernel)) ggX1_leastPrice_X1_replacementPrice
set_option maxRecDepth 20000 in
theorem ggX1_leastPrice_X1_areExchanged : GoodIn wsX1_leastPrice wsX1_areExchanged := goodIn_r _ [41, 19, 20, 21, 22, 23, 24, 25, 26, 44, 45, 46] (by decide +kernel) (by decide +kernel)
set_option maxRecDepth 20000 in
theorem gX1_leastPrice_X1_areExchanged : GoodIn wsX1_leastPrice (va_wsS RX1 64 yX1_areExchanged wsX1_areExchanged) := goodIn_app (goodIn_of _ (by decide +kernel)) ggX1_leastPrice_X1_areExchanged
theorem dX1_leastPrice_0 : decode cX1_leastPrice 0 = .ok (.iload_n 3, 1) := by decide +kernel
theorem dX1_leastPrice_1 : decode cX1_leastPrice 1 = .ok (.ifCond .ne 8, 3) := by decide +kernel
theorem dX1_leastPrice_4 : decode cX1_leastPrice 4 = .ok (.iload 4, 2) := by decide +kernel
theorem dX1_leastPrice_6 : decode cX1_leastPrice 6 = .ok (.iconst 2, 1) := by decide +kernel
theorem dX1_leastPrice_7 : decode cX1_leastPrice 7 = .ok (.imul, 1) := by decide +kernel
theorem dX1_leastPrice_8 : decode cX1_leastPrice 8 = .ok (.ireturn, 1) := by decide +kernel
theorem dX1_leastPrice_9 : decode cX1_leastPrice 9 = .ok (.aload_n 0, 1) := by decide +kernel
theorem dX1_leastPrice_10 : decode cX1_leastPrice 10 = .ok (.getfield 10, 3) := by decide +kernel
theorem dX1_leastPrice_13 : decode cX1_leastPrice 13 = .ok (.iload_n 3, 1) := by decide +kernel
theorem dX1_leastPrice_14 : decode cX1_leastPrice 14 = .ok (.iconst 1, 1) := by decide +kernel
theorem dX1_leastPrice_15 : decode cX1_leastPrice 15 = .ok (.isub, 1) := by decide +kernel
theorem dX1_leastPrice_16 : decode cX1_leastPrice 16 = .ok (.iload 4, 2) := by decide +kernel
theorem dX1_leastPrice_18 : decode cX1_leastPrice 18 = .ok (.invokevirtual 34, 3) := by decide +kernel
theorem dX1_leastPrice_21 : decode cX1_leastPrice 21 = .ok (.aload_n 1, 1) := by decide +kernel
theorem dX1_leastPrice_22 : decode cX1_leastPrice 22 = .ok (.iload_n 3, 1) := by decide +kernel
theorem dX1_leastPrice_23 : decode cX1_leastPrice 23 = .ok (.iconst 1, 1) := by decide +kernel
theorem dX1_leastPrice_24 : decode cX1_leastPrice 24 = .ok (.isub, 1) := by decide +kernel
theorem dX1_leastPrice_25 : decode cX1_leastPrice 25 = .ok (.invokestatic 57, 3) := by decide +kernel
theorem dX1_leastPrice_28 : decode cX1_leastPrice 28 = .ok (.iadd, 1) := by decide +kernel
theorem dX1_leastPrice_29 : decode cX1_leastPrice 29 = .ok (.istore 5, 2) := by decide +kernel
theorem dX1_leastPrice_31 : decode cX1_leastPrice 31 = .ok (.iload 4, 2) := by decide +kernel
theorem dX1_leastPrice_33 : decode cX1_leastPrice 33 = .ok (.iconst 1, 1) := by decide +kernel
theorem dX1_leastPrice_34 : decode cX1_leastPrice 34 = .ok (.if_icmp .lt 68, 3) := by decide +kernel
theorem dX1_leastPrice_37 : decode cX1_leastPrice 37 = .ok (.aload_n 1, 1) := by decide +kernel
theorem dX1_leastPrice_38 : decode cX1_leastPrice 38 = .ok (.iload_n 3, 1) := by decide +kernel
theorem dX1_leastPrice_39 : decode cX1_leastPrice 39 = .ok (.iconst 1, 1) := by decide +kernel
theorem dX1_leastPrice_40 : decode cX1_leastPrice 40 = .ok (.isub, 1) := by decide +kernel
theorem dX1_leastPrice_41 : decode cX1_leastPrice 41 = .ok (.invokevirtual 26, 3) := by decide +kernel
theorem dX1_leastPrice_44 : decode cX1_leastPrice 44 = .ok (.aload_n 2, 1) := by decide +kernel
theorem dX1_leastPrice_45 : decode cX1_leastPrice 45 = .ok (.iload 4, 2) := by decide +kernel
theorem dX1_leastPrice_47 : decode cX1_leastPrice 47 = .ok (.iconst 1, 1) := by decide +kernel
theorem dX1_leastPrice_48 : decode cX1_leastPrice 48 = .ok (.isub, 1) := by decide +kernel
theorem dX1_leastPrice_49 : decode cX1_leastPrice 49 = .ok (.invokevirtual 26, 3) := by decide +kernel
theorem dX1_leastPrice_52 : decode cX1_leastPrice 52 = .ok (.invokestatic 61, 3) := by decide +kernel
theorem dX1_leastPrice_55 : decode cX1_leastPrice 55 = .ok (.istore 6, 2) := by decide +kernel
theorem dX1_leastPrice_57 : decode cX1_leastPrice 57 = .ok (.iload 5, 2) := by decide +kernel
theorem dX1_leastPrice_59 : decode cX1_leastPrice 59 = .ok (.aload_n 0, 1) := by decide +kernel
theorem dX1_leastPrice_60 : decode cX1_leastPrice 60 = .ok (.getfield 10, 3) := by decide +kernel
theorem dX1_leastPrice_63 : decode cX1_leastPrice 63 = .ok (.iload_n 3, 1) := by decide +kernel
theorem dX1_leastPrice_64 : decode cX1_leastPrice 64 = .ok (.iload 4, 2) := by decide +kernel
theorem dX1_leastPrice_66 : decode cX1_leastPrice 66 = .ok (.iconst 1, 1) := by decide +kernel
theorem dX1_leastPrice_67 : decode cX1_leastPrice 67 = .ok (.isub, 1) := by decide +kernel
theorem dX1_leastPrice_68 : decode cX1_leastPrice 68 = .ok (.invokevirtual 34, 3) := by decide +kernel
theorem dX1_leastPrice_71 : decode cX1_leastPrice 71 = .ok (.iconst 2, 1) := by decide +kernel
theorem dX1_leastPrice_72 : decode cX1_leastPrice 72 = .ok (.iadd, 1) := by decide +kernel
theorem dX1_leastPrice_73 : decode cX1_leastPrice 73 = .ok (.invokestatic 42, 3) := by decide +kernel
theorem dX1_leastPrice_76 : decode cX1_leastPrice 76 = .ok (.istore 5, 2) := by decide +kernel
theorem dX1_leastPrice_78 : decode cX1_leastPrice 78 = .ok (.iload 5, 2) := by decide +kernel
theorem dX1_leastPrice_80 : decode cX1_leastPrice 80 = .ok (.aload_n 0, 1) := by decide +kernel
theorem dX1_leastPrice_81 : decode cX1_leastPrice 81 = .ok (.getfield 10, 3) := by decide +kernel
theorem dX1_leastPrice_84 : decode cX1_leastPrice 84 = .ok (.iload_n 3, 1) := by decide +kernel
theorem dX1_leastPrice_85 : decode cX1_leastPrice 85 = .ok (.iconst 1, 1) := by decide +kernel
theorem dX1_leastPrice_86 : decode cX1_leastPrice 86 = .ok (.isub, 1) := by decide +kernel
theorem dX1_leastPrice_87 : decode cX1_leastPrice 87 = .ok (.iload 4, 2) := by decide +kernel
theorem dX1_leastPrice_89 : decode cX1_leastPrice 89 = .ok (.iconst 1, 1) := by decide +kernel
theorem dX1_leastPrice_90 : decode cX1_leastPrice 90 = .ok (.isub, 1) := by decide +kernel
theorem dX1_leastPrice_91 : decode cX1_leastPrice 91 = .ok (.invokevirtual 34, 3) := by decide +kernel
theorem dX1_leastPrice_94 : decode cX1_leastPrice 94 = .ok (.iload 6, 2) := by decide +kernel
theorem dX1_leastPrice_96 : decode cX1_leastPrice 96 = .ok (.iadd, 1) := by decide +kernel
theorem dX1_leastPrice_97 : decode cX1_leastPrice 97 = .ok (.invokestatic 42, 3) := by decide +kernel
theorem dX1_leastPrice_100 : decode cX1_leastPrice 100 = .ok (.istore 5, 2) := by decide +kernel
theorem dX1_leastPrice_102 : decode cX1_leastPrice 102 = .ok (.iload 4, 2) := by decide +kernel
theorem dX1_leastPrice_104 : decode cX1_leastPrice 104 = .ok (.iconst 2, 1) := by decide +kernel
theorem dX1_leastPrice_105 : decode cX1_leastPrice 105 = .ok (.if_icmp .lt 42, 3) := by decide +kernel
theorem dX1_leastPrice_108 : decode cX1_leastPrice 108 = .ok (.iload_n 3, 1) := by decide +kernel
theorem dX1_leastPrice_109 : decode cX1_leastPrice 109 = .ok (.iconst 2, 1) := by decide +kernel
theorem dX1_leastPrice_110 : decode cX1_leastPrice 110 = .ok (.if_icmp .lt 37, 3) := by decide +kernel
theorem dX1_leastPrice_113 : decode cX1_leastPrice 113 = .ok (.aload_n 1, 1) := by decide +kernel
theorem dX1_leastPrice_114 : decode cX1_leastPrice 114 = .ok (.aload_n 2, 1) := by decide +kernel
theorem dX1_leastPrice_115 : decode cX1_leastPrice 115 = .ok (.iload_n 3, 1) := by decide +kernel
theorem dX1_leastPrice_116 : decode cX1_leastPrice 116 = .ok (.iload 4, 2) := by decide +kernel
theorem dX1_leastPrice_118 : decode cX1_leastPrice 118 = .ok (.invokestatic 64, 3) := by decide +kernel
theorem dX1_leastPrice_121 : decode cX1_leastPrice 121 = .ok (.ifCond .eq 26, 3) := by decide +kernel
theorem dX1_leastPrice_124 : decode cX1_leastPrice 124 = .ok (.iload 5, 2) := by decide +kernel
theorem dX1_leastPrice_126 : decode cX1_leastPrice 126 = .ok (.aload_n 0, 1) := by decide +kernel
theorem dX1_leastPrice_127 : decode cX1_leastPrice 127 = .ok (.getfield 10, 3) := by decide +kernel
theorem dX1_leastPrice_130 : decode cX1_leastPrice 130 = .ok (.iload_n 3, 1) := by decide +kernel
theorem dX1_leastPrice_131 : decode cX1_leastPrice 131 = .ok (.iconst 2, 1) := by decide +kernel
theorem dX1_leastPrice_132 : decode cX1_leastPrice 132 = .ok (.isub, 1) := by decide +kernel
theorem dX1_leastPrice_133 : decode cX1_leastPrice 133 = .ok (.iload 4, 2) := by decide +kernel
theorem dX1_leastPrice_135 : decode cX1_leastPrice 135 = .ok (.iconst 2, 1) := by decide +kernel
theorem dX1_leastPrice_136 : decode cX1_leastPrice 136 = .ok (.isub, 1) := by decide +kernel
theorem dX1_leastPrice_137 : decode cX1_leastPrice 137 = .ok (.invokevirtual 34, 3) := by decide +kernel
theorem dX1_leastPrice_140 : decode cX1_leastPrice 140 = .ok (.iconst 1, 1) := by decide +kernel
theorem dX1_leastPrice_141 : decode cX1_leastPrice 141 = .ok (.iadd, 1) := by decide +kernel
theorem dX1_leastPrice_142 : decode cX1_leastPrice 142 = .ok (.invokestatic 42, 3) := by decide +kernel
theorem dX1_leastPrice_145 : decode cX1_leastPrice 145 = .ok (.istore 5, 2) := by decide +kernel
theorem dX1_leastPrice_147 : decode cX1_leastPrice 147 = .ok (.iload 5, 2) := by decide +kernel
theorem dX1_leastPrice_149 : decode cX1_leastPrice 149 = .ok (.ireturn, 1) := by decide +kernel
set_option maxRecDepth 20000 in
theorem ggX1_deletionPrice_X8_letterAt : GoodIn wsX1_deletionPrice wsX8_letterAt := goodIn_r _ [5, 6, 7, 8, 9, 10, 11] (by decide +kernel) (by decide +kernel)
set_option maxRecDepth 20000 in
theorem gX1_deletionPrice_X8_letterAt : GoodIn wsX1_deletionPrice (wsV RX1 26 RX8 yX8_letterAt wsX8_letterAt) := goodIn_app (goodIn_of _ (by decide +kernel)) ggX1_deletionPrice_X8_letterAt
theorem dX1_deletionPrice_0 : decode cX1_deletionPrice 0 = .ok (.aload_n 0, 1) := by decide +kernel
theorem dX1_deletionPrice_1 : decode cX1_deletionPrice 1 = .ok (.iload_n 1, 1) := by decide +kernel
theorem dX1_deletionPrice_2 : decode cX1_deletionPrice 2 = .ok (.invokevirtual 26, 3) := by decide +kernel
theorem dX1_deletionPrice_5 : decode cX1_deletionPrice 5 = .ok (.aload_n 0, 1) := by decide +kernel
theorem dX1_deletionPrice_6 : decode cX1_deletionPrice 6 = .ok (.iload_n 1, 1) := by decide +kernel
theorem dX1_deletionPrice_7 : decode cX1_deletionPrice 7 = .ok (.iconst 1, 1) := by decide +kernel
theorem dX1_deletionPrice_8 : decode cX1_deletionPrice 8 = .ok (.isub, 1) := by decide +kernel
theorem dX1_deletionPrice_9 : decode cX1_deletionPrice 9 = .ok (.invokevirtual 26, 3) := by decide +kernel
theorem dX1_deletionPrice_12 : decode cX1_deletionPrice 12 = .ok (.if_icmp .ne 7, 3) := by decide +kernel
theorem dX1_deletionPrice_15 : decode cX1_deletionPrice 15 = .ok (.iconst 1, 1) := by decide +kernel
theorem dX1_deletionPrice_16 : decode cX1_deletionPrice 16 = .ok (.goto 4, 3) := by decide +kernel
theorem dX1_deletionPrice_19 : decode cX1_deletionPrice 19 = .ok (.iconst 2, 1) := by decide +kernel
theorem dX1_deletionPrice_20 : decode cX1_deletionPrice 20 = .ok (.ireturn, 1) := by decide +kernel
set_option maxRecDepth 20000 in
theorem ggX1_replacementPrice_X3_areBeside : GoodIn wsX1_replacementPrice wsX3_areBeside := goodIn_r _ [4, 5, 6, 7, 8, 3, 9] (by decide +kernel) (by decide +kernel)
set_option maxRecDepth 20000 in
theorem gX1_replacementPrice_X3_areBeside : GoodIn wsX1_replacementPrice (va_wsS RX1 68 yX3_areBeside wsX3_areBeside) := goodIn_app (goodIn_of _ (by decide +kernel)) ggX1_replacementPrice_X3_areBeside
theorem dX1_replacementPrice_0 : decode cX1_replacementPrice 0 = .ok (.iload_n 0, 1) := by decide +kernel
theorem dX1_replacementPrice_1 : decode cX1_replacementPrice 1 = .ok (.iload_n 1, 1) := by decide +kernel
theorem dX1_replacementPrice_2 : decode cX1_replacementPrice 2 = .ok (.if_icmp .ne 5, 3) := by decide +kernel
theorem dX1_replacementPrice_5 : decode cX1_replacementPrice 5 = .ok (.iconst 0, 1) := by decide +kernel
theorem dX1_replacementPrice_6 : decode cX1_replacementPrice 6 = .ok (.ireturn, 1) := by decide +kernel
theorem dX1_replacementPrice_7 : decode cX1_replacementPrice 7 = .ok (.iload_n 0, 1) := by decide +kernel
theorem dX1_replacementPrice_8 : decode cX1_replacementPrice 8 = .ok (.iload_n 1, 1) := by decide +kernel
theorem dX1_replacementPrice_9 : decode cX1_replacementPrice 9 = .ok (.invokestatic 68, 3) := by decide +kernel
theorem dX1_replacementPrice_12 : decode cX1_replacementPrice 12 = .ok (.ifCond .eq 7, 3) := by decide +kernel
theorem dX1_replacementPrice_15 : decode cX1_replacementPrice 15 = .ok (.iconst 1, 1) := by decide +kernel
theorem dX1_replacementPrice_16 : decode cX1_replacementPrice 16 = .ok (.goto 4, 3) := by decide +kernel
theorem dX1_replacementPrice_19 : decode cX1_replacementPrice 19 = .ok (.iconst 3, 1) := by decide +kernel
theorem dX1_replacementPrice_20 : decode cX1_replacementPrice 20 = .ok (.ireturn, 1) := by decide +kernel
set_option maxRecDepth 20000 in
theorem ggX1_areExchanged_X8_letterAt : GoodIn wsX1_areExchanged wsX8_letterAt := goodIn_r _ [5, 6, 7, 8, 9, 10, 11] (by decide +kernel) (by decide +kernel)
set_option maxRecDepth 20000 in
theorem gX1_areExchanged_X8_letterAt : GoodIn wsX1_areExchanged (wsV RX1 26 RX8 yX8_letterAt wsX8_letterAt) := goodIn_app (goodIn_of _ (by decide +kernel)) ggX1_areExchanged_X8_letterAt
theorem dX1_areExchanged_0 : decode cX1_areExchanged 0 = .ok (.aload_n 0, 1) := by decide +kernel
theorem dX1_areExchanged_1 : decode cX1_areExchanged 1 = .ok (.iload_n 2, 1) := by decide +kernel
theorem dX1_areExchanged_2 : decode cX1_areExchanged 2 = .ok (.iconst 2, 1) := by decide +kernel
theorem dX1_areExchanged_3 : decode cX1_areExchanged 3 = .ok (.isub, 1) := by decide +kernel
theorem dX1_areExchanged_4 : decode cX1_areExchanged 4 = .ok (.invokevirtual 26, 3) := by decide +kernel
theorem dX1_areExchanged_7 : decode cX1_areExchanged 7 = .ok (.istore 4, 2) := by decide +kernel
theorem dX1_areExchanged_9 : decode cX1_areExchanged 9 = .ok (.aload_n 0, 1) := by decide +kernel
theorem dX1_areExchanged_10 : decode cX1_areExchanged 10 = .ok (.iload_n 2, 1) := by decide +kernel
theorem dX1_areExchanged_11 : decode cX1_areExchanged 11 = .ok (.iconst 1, 1) := by decide +kernel
theorem dX1_areExchanged_12 : decode cX1_areExchanged 12 = .ok (.isub, 1) := by decide +kernel
theorem dX1_areExchanged_13 : decode cX1_areExchanged 13 = .ok (.invokevirtual 26, 3) := by decide +kernel
theorem dX1_areExchanged_16 : decode cX1_areExchanged 16 = .ok (.istore 5, 2) := by decide +kernel
theorem dX1_areExchanged_18 : decode cX1_areExchanged 18 = .ok (.iload 4, 2) := by decide +kernel
theorem dX1_areExchanged_20 : decode cX1_areExchanged 20 = .ok (.iload 5, 2) := by decide +kernel
theorem dX1_areExchanged_22 : decode cX1_areExchanged 22 = .ok (.if_icmp .eq 31, 3) := by decide +kernel
theorem dX1_areExchanged_25 : decode cX1_areExchanged 25 = .ok (.iload 4, 2) := by decide +kernel
theorem dX1_areExchanged_27 : decode cX1_areExchanged 27 = .ok (.aload_n 1, 1) := by decide +kernel
theorem dX1_areExchanged_28 : decode cX1_areExchanged 28 = .ok (.iload_n 3, 1) := by decide +kernel
theorem dX1_areExchanged_29 : decode cX1_areExchanged 29 = .ok (.iconst 1, 1) := by decide +kernel
theorem dX1_areExchanged_30 : decode cX1_areExchanged 30 = .ok (.isub, 1) := by decide +kernel
theorem dX1_areExchanged_31 : decode cX1_areExchanged 31 = .ok (.invokevirtual 26, 3) := by decide +kernel
theorem dX1_areExchanged_34 : decode cX1_areExchanged 34 = .ok (.if_icmp .ne 19, 3) := by decide +kernel
theorem dX1_areExchanged_37 : decode cX1_areExchanged 37 = .ok (.iload 5, 2) := by decide +kernel
theorem dX1_areExchanged_39 : decode cX1_areExchanged 39 = .ok (.aload_n 1, 1) := by decide +kernel
theorem dX1_areExchanged_40 : decode cX1_areExchanged 40 = .ok (.iload_n 3, 1) := by decide +kernel
theorem dX1_areExchanged_41 : decode cX1_areExchanged 41 = .ok (.iconst 2, 1) := by decide +kernel
theorem dX1_areExchanged_42 : decode cX1_areExchanged 42 = .ok (.isub, 1) := by decide +kernel
theorem dX1_areExchanged_43 : decode cX1_areExchanged 43 = .ok (.invokevirtual 26, 3) := by decide +kernel
theorem dX1_areExchanged_46 : decode cX1_areExchanged 46 = .ok (.if_icmp .ne 7, 3) := by decide +kernel
theorem dX1_areExchanged_49 : decode cX1_areExchanged 49 = .ok (.iconst 1, 1) := by decide +kernel
theorem dX1_areExchanged_50 : decode cX1_areExchanged 50 = .ok (.goto 4, 3) := by decide +kernel
theorem dX1_areExchanged_53 : decode cX1_areExchanged 53 = .ok (.iconst 0, 1) := by decide +kernel
theorem dX1_areExchanged_54 : decode cX1_areExchanged 54 = .ok (.ireturn, 1) := by decide +kernel
theorem dX2_init_0 : decode cX2_init 0 = .ok (.aload_n 0, 1) := by decide +kernel
theorem dX2_init_1 : decode cX2_init 1 = .ok (.invokespecial 3, 3) := by decide +kernel
theorem dX2_init_4 : decode cX2_init 4 = .ok (.aload_n 0, 1) := by decide +kernel
theorem dX2_init_5 : decode cX2_init 5 = .ok (.bipush 121, 2) := by decide +kernel
theorem dX2_init_7 : decode cX2_init 7 = .ok (.newarray .int, 2) := by decide +kernel
theorem dX2_init_9 : decode cX2_init 9 = .ok (.putfield 11, 3) := by decide +kernel
theorem dX2_init_12 : decode cX2_init 12 = .ok (.return_, 1) := by decide +kernel
set_option maxRecDepth 20000 in
theorem ggX2_at_X2_isInside : GoodIn wsX2_at wsX2_isInside := goodIn_r _ [5] (by decide +kernel) (by decide +kernel)
set_option maxRecDepth 20000 in
theorem gX2_at_X2_isInside : GoodIn wsX2_at (va_wsS RX2 15 yX2_isInside wsX2_isInside) := goodIn_app (goodIn_of _ (by decide +kernel)) ggX2_at_X2_isInside
theorem dX2_at_0 : decode cX2_at 0 = .ok (.iload_n 1, 1) := by decide +kernel
theorem dX2_at_1 : decode cX2_at 1 = .ok (.iload_n 2, 1) := by decide +kernel
theorem dX2_at_2 : decode cX2_at 2 = .ok (.invokestatic 15, 3) := by decide +kernel
theorem dX2_at_5 : decode cX2_at 5 = .ok (.ifCond .eq 17, 3) := by decide +kernel
theorem dX2_at_8 : decode cX2_at 8 = .ok (.aload_n 0, 1) := by decide +kernel
theorem dX2_at_9 : decode cX2_at 9 = .ok (.getfield 11, 3) := by decide +kernel
theorem dX2_at_12 : decode cX2_at 12 = .ok (.iload_n 1, 1) := by decide +kernel
theorem dX2_at_13 : decode cX2_at 13 = .ok (.bipush 11, 2) := by decide +kernel
theorem dX2_at_15 : decode cX2_at 15 = .ok (.imul, 1) := by decide +kernel
theorem dX2_at_16 : decode cX2_at 16 = .ok (.iload_n 2, 1) := by decide +kernel
theorem dX2_at_17 : decode cX2_at 17 = .ok (.iadd, 1) := by decide +kernel
theorem dX2_at_18 : decode cX2_at 18 = .ok (.iaload, 1) := by decide +kernel
theorem dX2_at_19 : decode cX2_at 19 = .ok (.goto 4, 3) := by decide +kernel
theorem dX2_at_22 : decode cX2_at 22 = .ok (.iconst 0, 1) := by decide +kernel
theorem dX2_at_23 : decode cX2_at 23 = .ok (.ireturn, 1) := by decide +kernel
set_option maxRecDepth 20000 in
theorem ggX2_put_X2_isInside : GoodIn wsX2_put wsX2_isInside := goodIn_r _ [5] (by decide +kernel) (by decide +kernel)
set_option maxRecDepth 20000 in
theorem gX2_put_X2_isInside : GoodIn wsX2_put (va_wsS RX2 15 yX2_isInside wsX2_isInside) := goodIn_app (goodIn_of _ (by decide +kernel)) ggX2_put_X2_isInside
theorem dX2_put_0 : decode cX2_put 0 = .ok (.iload_n 1, 1) := by decide +kernel
theorem dX2_put_1 : decode cX2_put 1 = .ok (.iload_n 2, 1) := by decide +kernel
theorem dX2_put_2 : decode cX2_put 2 = .ok (.invokestatic 15, 3) := by decide +kernel
theorem dX2_put_5 : decode cX2_put 5 = .ok (.ifCond .eq 15, 3) := by decide +kernel
theorem dX2_put_8 : decode cX2_put 8 = .ok (.aload_n 0, 1) := by decide +kernel
theorem dX2_put_9 : decode cX2_put 9 = .ok (.getfield 11, 3) := by decide +kernel
theorem dX2_put_12 : decode cX2_put 12 = .ok (.iload_n 1, 1) := by decide +kernel
theorem dX2_put_13 : decode cX2_put 13 = .ok (.bipush 11, 2) := by decide +kernel
theorem dX2_put_15 : decode cX2_put 15 = .ok (.imul, 1) := by decide +kernel
theorem dX2_put_16 : decode cX2_put 16 = .ok (.iload_n 2, 1) := by decide +kernel
theorem dX2_put_17 : decode cX2_put 17 = .ok (.iadd, 1) := by decide +kernel
theorem dX2_put_18 : decode cX2_put 18 = .ok (.iload_n 3, 1) := by decide +kernel
theorem dX2_put_19 : decode cX2_put 19 = .ok (.iastore, 1) := by decide +kernel
theorem dX2_put_20 : decode cX2_put 20 = .ok (.return_, 1) := by decide +kernel
theorem dX2_isInside_0 : decode cX2_isInside 0 = .ok (.iload_n 0, 1) := by decide +kernel
theorem dX2_isInside_1 : decode cX2_isInside 1 = .ok (.ifCond .lt 23, 3) := by decide +kernel
theorem dX2_isInside_4 : decode cX2_isInside 4 = .ok (.iload_n 0, 1) := by decide +kernel
theorem dX2_isInside_5 : decode cX2_isInside 5 = .ok (.bipush 11, 2) := by decide +kernel
theorem dX2_isInside_7 : decode cX2_isInside 7 = .ok (.if_icmp .ge 17, 3) := by decide +kernel
theorem dX2_isInside_10 : decode cX2_isInside 10 = .ok (.iload_n 1, 1) := by decide +kernel
theorem dX2_isInside_11 : decode cX2_isInside 11 = .ok (.ifCond .lt 13, 3) := by decide +kernel
theorem dX2_isInside_14 : decode cX2_isInside 14 = .ok (.iload_n 1, 1) := by decide +kernel
theorem dX2_isInside_15 : decode cX2_isInside 15 = .ok (.bipush 11, 2) := by decide +kernel
theorem dX2_isInside_17 : decode cX2_isInside 17 = .ok (.if_icmp .ge 7, 3) := by decide +kernel
theorem dX2_isInside_20 : decode cX2_isInside 20 = .ok (.iconst 1, 1) := by decide +kernel
theorem dX2_isInside_21 : decode cX2_isInside 21 = .ok (.goto 4, 3) := by decide +kernel
theorem dX2_isInside_24 : decode cX2_isInside 24 = .ok (.iconst 0, 1) := by decide +kernel
theorem dX2_isInside_25 : decode cX2_isInside 25 = .ok (.ireturn, 1) := by decide +kernel
set_option maxRecDepth 20000 in
theorem ggX3_areBeside_X3_at : GoodIn wsX3_areBeside wsX3_at := goodIn_r _ [6] (by decide +kernel) (by decide +kernel)
set_option maxRecDepth 20000 in
theorem gX3_areBeside_X3_at : GoodIn wsX3_areBeside (va_wsS RX3 15 yX3_at wsX3_at) := goodIn_app (goodIn_of _ (by decide +kernel)) ggX3_areBeside_X3_at
theorem dX3_areBeside_0 : decode cX3_areBeside 0 = .ok (.getstatic 9, 3) := by decide +kernel
theorem dX3_areBeside_3 : decode cX3_areBeside 3 = .ok (.iload_n 1, 1) := by decide +kernel
theorem dX3_areBeside_4 : decode cX3_areBeside 4 = .ok (.invokestatic 15, 3) := by decide +kernel
theorem dX3_areBeside_7 : decode cX3_areBeside 7 = .ok (.getstatic 9, 3) := by decide +kernel
theorem dX3_areBeside_10 : decode cX3_areBeside 10 = .ok (.iload_n 0, 1) := by decide +kernel
theorem dX3_areBeside_11 : decode cX3_areBeside 11 = .ok (.invokestatic 15, 3) := by decide +kernel
theorem dX3_areBeside_14 : decode cX3_areBeside 14 = .ok (.isub, 1) := by decide +kernel
theorem dX3_areBeside_15 : decode cX3_areBeside 15 = .ok (.istore_n 2, 1) := by decide +kernel
theorem dX3_areBeside_16 : decode cX3_areBeside 16 = .ok (.getstatic 19, 3) := by decide +kernel
theorem dX3_areBeside_19 : decode cX3_areBeside 19 = .ok (.iload_n 1, 1) := by decide +kernel
theorem dX3_areBeside_20 : decode cX3_areBeside 20 = .ok (.invokestatic 15, 3) := by decide +kernel
theorem dX3_areBeside_23 : decode cX3_areBeside 23 = .ok (.getstatic 19, 3) := by decide +kernel
theorem dX3_areBeside_26 : decode cX3_areBeside 26 = .ok (.iload_n 0, 1) := by decide +kernel
theorem dX3_areBeside_27 : decode cX3_areBeside 27 = .ok (.invokestatic 15, 3) := by decide +kernel
theorem dX3_areBeside_30 : decode cX3_areBeside 30 = .ok (.isub, 1) := by decide +kernel
theorem dX3_areBeside_31 : decode cX3_areBeside 31 = .ok (.istore_n 3, 1) := by decide +kernel
theorem dX3_areBeside_32 : decode cX3_areBeside 32 = .ok (.iload_n 2, 1) := by decide +kernel
theorem dX3_areBeside_33 : decode cX3_areBeside 33 = .ok (.ifCond .ne 19, 3) := by decide +kernel
theorem dX3_areBeside_36 : decode cX3_areBeside 36 = .ok (.iload_n 3, 1) := by decide +kernel
theorem dX3_areBeside_37 : decode cX3_areBeside 37 = .ok (.iconst 1, 1) := by decide +kernel
theorem dX3_areBeside_38 : decode cX3_areBeside 38 = .ok (.if_icmp .eq 8, 3) := by decide +kernel
theorem dX3_areBeside_41 : decode cX3_areBeside 41 = .ok (.iload_n 3, 1) := by decide +kernel
theorem dX3_areBeside_42 : decode cX3_areBeside 42 = .ok (.iconst (-1), 1) := by decide +kernel
theorem dX3_areBeside_43 : decode cX3_areBeside 43 = .ok (.if_icmp .ne 7, 3) := by decide +kernel
theorem dX3_areBeside_46 : decode cX3_areBeside 46 = .ok (.iconst 1, 1) := by decide +kernel
theorem dX3_areBeside_47 : decode cX3_areBeside 47 = .ok (.goto 4, 3) := by decide +kernel
theorem dX3_areBeside_50 : decode cX3_areBeside 50 = .ok (.iconst 0, 1) := by decide +kernel
theorem dX3_areBeside_51 : decode cX3_areBeside 51 = .ok (.ireturn, 1) := by decide +kernel
theorem dX3_areBeside_52 : decode cX3_areBeside 52 = .ok (.iload_n 2, 1) := by decide +kernel
theorem dX3_areBeside_53 : decode cX3_areBeside 53 = .ok (.iconst 1, 1) := by decide +kernel
theorem dX3_areBeside_54 : decode cX3_areBeside 54 = .ok (.if_icmp .ne 18, 3) := by decide +kernel
theorem dX3_areBeside_57 : decode cX3_areBeside 57 = .ok (.iload_n 3, 1) := by decide +kernel
theorem dX3_areBeside_58 : decode cX3_areBeside 58 = .ok (.ifCond .eq 8, 3) := by decide +kernel
theorem dX3_areBeside_61 : decode cX3_areBeside 61 = .ok (.iload_n 3, 1) := by decide +kernel
theorem dX3_areBeside_62 : decode cX3_areBeside 62 = .ok (.iconst (-1), 1) := by decide +kernel
theorem dX3_areBeside_63 : decode cX3_areBeside 63 = .ok (.if_icmp .ne 7, 3) := by decide +kernel
theorem dX3_areBeside_66 : decode cX3_areBeside 66 = .ok (.iconst 1, 1) := by decide +kernel
theorem dX3_areBeside_67 : decode cX3_areBeside 67 = .ok (.goto 4, 3) := by decide +kernel
theorem dX3_areBeside_70 : decode cX3_areBeside 70 = .ok (.iconst 0, 1) := by decide +kernel
theorem dX3_areBeside_71 : decode cX3_areBeside 71 = .ok (.ireturn, 1) := by decide +kernel
theorem dX3_areBeside_72 : decode cX3_areBeside 72 = .ok (.iload_n 2, 1) := by decide +kernel
theorem dX3_areBeside_73 : decode cX3_areBeside 73 = .ok (.iconst (-1), 1) := by decide +kernel
theorem dX3_areBeside_74 : decode cX3_areBeside 74 = .ok (.if_icmp .ne 16, 3) := by decide +kernel
theorem dX3_areBeside_77 : decode cX3_areBeside 77 = .ok (.iload_n 3, 1) := by decide +kernel
theorem dX3_areBeside_78 : decode cX3_areBeside 78 = .ok (.ifCond .eq 8, 3) := by decide +kernel
theorem dX3_areBeside_81 : decode cX3_areBeside 81 = .ok (.iload_n 3, 1) := by decide +kernel
theorem dX3_areBeside_82 : decode cX3_areBeside 82 = .ok (.iconst 1, 1) := by decide +kernel
theorem dX3_areBeside_83 : decode cX3_areBeside 83 = .ok (.if_icmp .ne 7, 3) := by decide +kernel
theorem dX3_areBeside_86 : decode cX3_areBeside 86 = .ok (.iconst 1, 1) := by decide +kernel
theorem dX3_areBeside_87 : decode cX3_areBeside 87 = .ok (.goto 4, 3) := by decide +kernel
theorem dX3_areBeside_90 : decode cX3_areBeside 90 = .ok (.iconst 0, 1) := by decide +kernel
theorem dX3_areBeside_91 : decode cX3_areBeside 91 = .ok (.ireturn, 1) := by decide +kernel
theorem dX3_at_0 : decode cX3_at 0 = .ok (.iload_n 1, 1) := by decide +kernel
theorem dX3_at_1 : decode cX3_at 1 = .ok (.iconst 1, 1) := by decide +kernel
theorem dX3_at_2 : decode cX3_at 2 = .ok (.if_icmp .lt 17, 3) := by decide +kernel
theorem dX3_at_5 : decode cX3_at 5 = .ok (.iload_n 1, 1) := by decide +kernel
theorem dX3_at_6 : decode cX3_at 6 = .ok (.aload_n 0, 1) := by decide +kernel
theorem dX3_at_7 : decode cX3_at 7 = .ok (.arraylength, 1) := by decide +kernel
theorem dX3_at_8 : decode cX3_at 8 = .ok (.if_icmp .gt 11, 3) := by decide +kernel
theorem dX3_at_11 : decode cX3_at 11 = .ok (.aload_n 0, 1) := by decide +kernel
theorem dX3_at_12 : decode cX3_at 12 = .ok (.iload_n 1, 1) := by decide +kernel
theorem dX3_at_13 : decode cX3_at 13 = .ok (.iconst 1, 1) := by decide +kernel
theorem dX3_at_14 : decode cX3_at 14 = .ok (.isub, 1) := by decide +kernel
theorem dX3_at_15 : decode cX3_at 15 = .ok (.iaload, 1) := by decide +kernel
theorem dX3_at_16 : decode cX3_at 16 = .ok (.goto 4, 3) := by decide +kernel
theorem dX3_at_19 : decode cX3_at 19 = .ok (.iconst (-1), 1) := by decide +kernel
theorem dX3_at_20 : decode cX3_at 20 = .ok (.ireturn, 1) := by decide +kernel
theorem dX4_init_0 : decode cX4_init 0 = .ok (.aload_n 0, 1) := by decide +kernel
theorem dX4_init_1 : decode cX4_init 1 = .ok (.invokespecial 1, 3) := by decide +kernel
theorem dX4_init_4 : decode cX4_init 4 = .ok (.aload_n 0, 1) := by decide +kernel
theorem dX4_init_5 : decode cX4_init 5 = .ok (.iload_n 1, 1) := by decide +kernel
theorem dX4_init_6 : decode cX4_init 6 = .ok (.ifCond .le 7, 3) := by decide +kernel
theorem dX4_init_9 : decode cX4_init 9 = .ok (.iload_n 1, 1) := by decide +kernel
theorem dX4_init_10 : decode cX4_init 10 = .ok (.goto 4, 3) := by decide +kernel
theorem dX4_init_13 : decode cX4_init 13 = .ok (.iconst 0, 1) := by decide +kernel
theorem dX4_init_14 : decode cX4_init 14 = .ok (.newarray .long, 2) := by decide +kernel
theorem dX4_init_16 : decode cX4_init 16 = .ok (.putfield 7, 3) := by decide +kernel
theorem dX4_init_19 : decode cX4_init 19 = .ok (.return_, 1) := by decide +kernel
theorem dX4_size_0 : decode cX4_size 0 = .ok (.aload_n 0, 1) := by decide +kernel
theorem dX4_size_1 : decode cX4_size 1 = .ok (.getfield 13, 3) := by decide +kernel
theorem dX4_size_4 : decode cX4_size 4 = .ok (.ireturn, 1) := by decide +kernel
theorem dX4_clear_0 : decode cX4_clear 0 = .ok (.aload_n 0, 1) := by decide +kernel
theorem dX4_clear_1 : decode cX4_clear 1 = .ok (.iconst 0, 1) := by decide +kernel
theorem dX4_clear_2 : decode cX4_clear 2 = .ok (.putfield 13, 3) := by decide +kernel
theorem dX4_clear_5 : decode cX4_clear 5 = .ok (.return_, 1) := by decide +kernel
set_option maxRecDepth 20000 in
theorem ggX4_put_X4_holds : GoodIn wsX4_put wsX4_holds := goodIn_r _ [7, 1, 2, 8, 9] (by decide +kernel) (by decide +kernel)
set_option maxRecDepth 20000 in
theorem gX4_put_X4_holds : GoodIn wsX4_put (wsV RX4 17 RX4 yX4_holds wsX4_holds) := goodIn_app (goodIn_of _ (by decide +kernel)) ggX4_put_X4_holds
theorem dX4_put_0 : decode cX4_put 0 = .ok (.aload_n 0, 1) := by decide +kernel
theorem dX4_put_1 : decode cX4_put 1 = .ok (.getfield 13, 3) := by decide +kernel
theorem dX4_put_4 : decode cX4_put 4 = .ok (.aload_n 0, 1) := by decide +kernel
theorem dX4_put_5 : decode cX4_put 5 = .ok (.getfield 7, 3) := by decide +kernel
theorem dX4_put_8 : decode cX4_put 8 = .ok (.arraylength, 1) := by decide +kernel
theorem dX4_put_9 : decode cX4_put 9 = .ok (.if_icmp .ge 31, 3) := by decide +kernel
theorem dX4_put_12 : decode cX4_put 12 = .ok (.aload_n 0, 1) := by decide +kernel
theorem dX4_put_13 : decode cX4_put 13 = .ok (.lload_n 1, 1) := by decide +kernel
theorem dX4_put_14 : decode cX4_put 14 = .ok (.invokevirtual 17, 3) := by decide +kernel
theorem dX4_put_17 : decode cX4_put 17 = .ok (.ifCond .ne 23, 3) := by decide +kernel
theorem dX4_put_20 : decode cX4_put 20 = .ok (.aload_n 0, 1) := by decide +kernel
theorem dX4_put_21 : decode cX4_put 21 = .ok (.getfield 7, 3) := by decide +kernel
theorem dX4_put_24 : decode cX4_put 24 = .ok (.aload_n 0, 1) := by decide +kernel
theorem dX4_put_25 : decode cX4_put 25 = .ok (.getfield 13, 3) := by decide +kernel
theorem dX4_put_28 : decode cX4_put 28 = .ok (.lload_n 1, 1) := by decide +kernel
theorem dX4_put_29 : decode cX4_put 29 = .ok (.lastore, 1) := by decide +kernel
theorem dX4_put_30 : decode cX4_put 30 = .ok (.aload_n 0, 1) := by decide +kernel
theorem dX4_put_31 : decode cX4_put 31 = .ok (.dup, 1) := by decide +kernel
theorem dX4_put_32 : decode cX4_put 32 = .ok (.getfield 13, 3) := by decide +kernel
theorem dX4_put_35 : decode cX4_put 35 = .ok (.iconst 1, 1) := by decide +kernel
theorem dX4_put_36 : decode cX4_put 36 = .ok (.iadd, 1) := by decide +kernel
theorem dX4_put_37 : decode cX4_put 37 = .ok (.putfield 13, 3) := by decide +kernel
theorem dX4_put_40 : decode cX4_put 40 = .ok (.return_, 1) := by decide +kernel
theorem dX4_holds_0 : decode cX4_holds 0 = .ok (.iconst 0, 1) := by decide +kernel
theorem dX4_holds_1 : decode cX4_holds 1 = .ok (.istore_n 3, 1) := by decide +kernel
theorem dX4_holds_2 : decode cX4_holds 2 = .ok (.iload_n 3, 1) := by decide +kernel
theorem dX4_holds_3 : decode cX4_holds 3 = .ok (.aload_n 0, 1) := by decide +kernel
theorem dX4_holds_4 : decode cX4_holds 4 = .ok (.getfield 13, 3) := by decide +kernel
theorem dX4_holds_7 : decode cX4_holds 7 = .ok (.if_icmp .ge 31, 3) := by decide +kernel
theorem dX4_holds_10 : decode cX4_holds 10 = .ok (.iload_n 3, 1) := by decide +kernel
theorem dX4_holds_11 : decode cX4_holds 11 = .ok (.aload_n 0, 1) := by decide +kernel
theorem dX4_holds_12 : decode cX4_holds 12 = .ok (.getfield 7, 3) := by decide +kernel
theorem dX4_holds_15 : decode cX4_holds 15 = .ok (.arraylength, 1) := by decide +kernel
theorem dX4_holds_16 : decode cX4_holds 16 = .ok (.if_icmp .ge 22, 3) := by decide +kernel
theorem dX4_holds_19 : decode cX4_holds 19 = .ok (.aload_n 0, 1) := by decide +kernel
theorem dX4_holds_20 : decode cX4_holds 20 = .ok (.getfield 7, 3) := by decide +kernel
theorem dX4_holds_23 : decode cX4_holds 23 = .ok (.iload_n 3, 1) := by decide +kernel
theorem dX4_holds_24 : decode cX4_holds 24 = .ok (.laload, 1) := by decide +kernel
theorem dX4_holds_25 : decode cX4_holds 25 = .ok (.lload_n 1, 1) := by decide +kernel
theorem dX4_holds_26 : decode cX4_holds 26 = .ok (.lcmp, 1) := by decide +kernel
theorem dX4_holds_27 : decode cX4_holds 27 = .ok (.ifCond .ne 5, 3) := by decide +kernel
theorem dX4_holds_30 : decode cX4_holds 30 = .ok (.iconst 1, 1) := by decide +kernel
theorem dX4_holds_31 : decode cX4_holds 31 = .ok (.ireturn, 1) := by decide +kernel
theorem dX4_holds_32 : decode cX4_holds 32 = .ok (.iinc 3 1, 3) := by decide +kernel
theorem dX4_holds_35 : decode cX4_holds 35 = .ok (.goto (-33), 3) := by decide +kernel
theorem dX4_holds_38 : decode cX4_holds 38 = .ok (.iconst 0, 1) := by decide +kernel
theorem dX4_holds_39 : decode cX4_holds 39 = .ok (.ireturn, 1) := by decide +kernel
theorem dX5_init_0 : decode cX5_init 0 = .ok (.aload_n 0, 1) := by decide +kernel
theorem dX5_init_1 : decode cX5_init 1 = .ok (.invokespecial 3, 3) := by decide +kernel
theorem dX5_init_4 : decode cX5_init 4 = .ok (.aload_n 0, 1) := by decide +kernel
theorem dX5_init_5 : decode cX5_init 5 = .ok (.bipush 40, 2) := by decide +kernel
theorem dX5_init_7 : decode cX5_init 7 = .ok (.anewarray 9, 3) := by decide +kernel
theorem dX5_init_10 : decode cX5_init 10 = .ok (.putfield 11, 3) := by decide +kernel
theorem dX5_init_13 : decode cX5_init 13 = .ok (.return_, 1) := by decide +kernel
theorem dX5_size_0 : decode cX5_size 0 = .ok (.aload_n 0, 1) := by decide +kernel
theorem dX5_size_1 : decode cX5_size 1 = .ok (.getfield 17, 3) := by decide +kernel
theorem dX5_size_4 : decode cX5_size 4 = .ok (.ireturn, 1) := by decide +kernel
theorem dX5_clear_0 : decode cX5_clear 0 = .ok (.aload_n 0, 1) := by decide +kernel
theorem dX5_clear_1 : decode cX5_clear 1 = .ok (.iconst 0, 1) := by decide +kernel
theorem dX5_clear_2 : decode cX5_clear 2 = .ok (.putfield 17, 3) := by decide +kernel
theorem dX5_clear_5 : decode cX5_clear 5 = .ok (.return_, 1) := by decide +kernel
theorem dX5_at_0 : decode cX5_at 0 = .ok (.iload_n 1, 1) := by decide +kernel
theorem dX5_at_1 : decode cX5_at 1 = .ok (.ifCond .lt 29, 3) := by decide +kernel
theorem dX5_at_4 : decode cX5_at 4 = .ok (.iload_n 1, 1) := by decide +kernel
theorem dX5_at_5 : decode cX5_at 5 = .ok (.aload_n 0, 1) := by decide +kernel
theorem dX5_at_6 : decode cX5_at 6 = .ok (.getfield 17, 3) := by decide +kernel
theorem dX5_at_9 : decode cX5_at 9 = .ok (.if_icmp .ge 21, 3) := by decide +kernel
theorem dX5_at_12 : decode cX5_at 12 = .ok (.iload_n 1, 1) := by decide +kernel
theorem dX5_at_13 : decode cX5_at 13 = .ok (.aload_n 0, 1) := by decide +kernel
theorem dX5_at_14 : decode cX5_at 14 = .ok (.getfield 11, 3) := by decide +kernel
theorem dX5_at_17 : decode cX5_at 17 = .ok (.arraylength, 1) := by decide +kernel
theorem dX5_at_18 : decode cX5_at 18 = .ok (.if_icmp .ge 12, 3) := by decide +kernel
theorem dX5_at_21 : decode cX5_at 21 = .ok (.aload_n 0, 1) := by decide +kernel
theorem dX5_at_22 : decode cX5_at 22 = .ok (.getfield 11, 3) := by decide +kernel
theorem dX5_at_25 : decode cX5_at 25 = .ok (.iload_n 1, 1) := by decide +kernel
theorem dX5_at_26 : decode cX5_at 26 = .ok (.aaload, 1) := by decide +kernel
theorem dX5_at_27 : decode cX5_at 27 = .ok (.goto 4, 3) := by decide +kernel
theorem dX5_at_30 : decode cX5_at 30 = .ok (.aconst_null, 1) := by decide +kernel
theorem dX5_at_31 : decode cX5_at 31 = .ok (.areturn, 1) := by decide +kernel
set_option maxRecDepth 20000 in
theorem ggX5_append_X5_insert : GoodIn wsX5_append wsX5_insert := goodIn_r _ [6, 1, 7, 8, 9] (by decide +kernel) (by decide +kernel)
set_option maxRecDepth 20000 in
theorem gX5_append_X5_insert : GoodIn wsX5_append (wsV RX5 21 RX5 yX5_insert wsX5_insert) := goodIn_app (goodIn_of _ (by decide +kernel)) ggX5_append_X5_insert
theorem dX5_append_0 : decode cX5_append 0 = .ok (.aload_n 0, 1) := by decide +kernel
theorem dX5_append_1 : decode cX5_append 1 = .ok (.aload_n 0, 1) := by decide +kernel
theorem dX5_append_2 : decode cX5_append 2 = .ok (.getfield 17, 3) := by decide +kernel
theorem dX5_append_5 : decode cX5_append 5 = .ok (.aload_n 1, 1) := by decide +kernel
theorem dX5_append_6 : decode cX5_append 6 = .ok (.invokevirtual 21, 3) := by decide +kernel
theorem dX5_append_9 : decode cX5_append 9 = .ok (.return_, 1) := by decide +kernel
set_option maxRecDepth 20000 in
theorem ggX5_insertAlphabetically_X5_at : GoodIn wsX5_insertAlphabetically wsX5_at := goodIn_r _ [6, 1, 7, 18, 19] (by decide +kernel) (by decide +kernel)
set_option maxRecDepth 20000 in
theorem gX5_insertAlphabetically_X5_at : GoodIn wsX5_insertAlphabetically (wsV RX5 25 RX5 yX5_at wsX5_at) := goodIn_app (goodIn_of _ (by decide +kernel)) ggX5_insertAlphabetically_X5_at
set_option maxRecDepth 20000 in
theorem ggX5_insertAlphabetically_X0_standsAhead : GoodIn wsX5_insertAlphabetically wsX0_standsAhead := goodIn_r _ [12, 13, 20, 21, 22, 23, 24, 25, 26, 27, 28, 29, 30] (by decide +kernel) (by decide +kernel)
set_option maxRecDepth 20000 in
theorem gX5_insertAlphabetically_X0_standsAhead : GoodIn wsX5_insertAlphabetically (wsV RX5 29 RX0 yX0_standsAhead wsX0_standsAhead) := goodIn_app (goodIn_of _ (by decide +kernel)) ggX5_insertAlphabetically_X0_standsAhead
set_option maxRecDepth 20000 in
theorem ggX5_insertAlphabetically_X5_insert : GoodIn wsX5_insertAlphabetically wsX5_insert := goodIn_r _ [17, 1, 7, 18, 19] (by decide +kernel) (by decide +kernel)
set_option maxRecDepth 20000 in
theorem gX5_insertAlphabetically_X5_insert : GoodIn wsX5_insertAlphabetically (wsV RX5 21 RX5 yX5_insert wsX5_insert) := goodIn_app (goodIn_of _ (by decide +kernel)) ggX5_insertAlphabetically_X5_insert
theorem dX5_insertAlphabetically_0 : decode cX5_insertAlphabetically 0 = .ok (.iconst 0, 1) := by decide +kernel
theorem dX5_insertAlphabetically_1 : decode cX5_insertAlphabetically 1 = .ok (.istore_n 2, 1) := by decide +kernel
theorem dX5_insertAlphabetically_2 : decode cX5_insertAlphabetically 2 = .ok (.iconst 0, 1) := by decide +kernel
theorem dX5_insertAlphabetically_3 : decode cX5_insertAlphabetically 3 = .ok (.istore_n 3, 1) := by decide +kernel
theorem dX5_insertAlphabetically_4 : decode cX5_insertAlphabetically 4 = .ok (.iload_n 3, 1) := by decide +kernel
theorem dX5_insertAlphabetically_5 : decode cX5_insertAlphabetically 5 = .ok (.aload_n 0, 1) := by decide +kernel
theorem dX5_insertAlphabetically_6 : decode cX5_insertAlphabetically 6 = .ok (.getfield 17, 3) := by decide +kernel
theorem dX5_insertAlphabetically_9 : decode cX5_insertAlphabetically 9 = .ok (.if_icmp .ge 33, 3) := by decide +kernel
theorem dX5_insertAlphabetically_12 : decode cX5_insertAlphabetically 12 = .ok (.aload_n 0, 1) := by decide +kernel
theorem dX5_insertAlphabetically_13 : decode cX5_insertAlphabetically 13 = .ok (.iload_n 3, 1) := by decide +kernel
theorem dX5_insertAlphabetically_14 : decode cX5_insertAlphabetically 14 = .ok (.invokevirtual 25, 3) := by decide +kernel
theorem dX5_insertAlphabetically_17 : decode cX5_insertAlphabetically 17 = .ok (.astore 4, 2) := by decide +kernel
theorem dX5_insertAlphabetically_19 : decode cX5_insertAlphabetically 19 = .ok (.aload 4, 2) := by decide +kernel
theorem dX5_insertAlphabetically_21 : decode cX5_insertAlphabetically 21 = .ok (.ifnull 15, 3) := by decide +kernel
theorem dX5_insertAlphabetically_24 : decode cX5_insertAlphabetically 24 = .ok (.aload 4, 2) := by decide +kernel
theorem dX5_insertAlphabetically_26 : decode cX5_insertAlphabetically 26 = .ok (.aload_n 1, 1) := by decide +kernel
theorem dX5_insertAlphabetically_27 : decode cX5_insertAlphabetically 27 = .ok (.invokevirtual 29, 3) := by decide +kernel
theorem dX5_insertAlphabetically_30 : decode cX5_insertAlphabetically 30 = .ok (.ifCond .eq 6, 3) := by decide +kernel
theorem dX5_insertAlphabetically_33 : decode cX5_insertAlphabetically 33 = .ok (.iinc 2 1, 3) := by decide +kernel
theorem dX5_insertAlphabetically_36 : decode cX5_insertAlphabetically 36 = .ok (.iinc 3 1, 3) := by decide +kernel
theorem dX5_insertAlphabetically_39 : decode cX5_insertAlphabetically 39 = .ok (.goto (-35), 3) := by decide +kernel
theorem dX5_insertAlphabetically_42 : decode cX5_insertAlphabetically 42 = .ok (.aload_n 0, 1) := by decide +kernel
theorem dX5_insertAlphabetically_43 : decode cX5_insertAlphabetically 43 = .ok (.iload_n 2, 1) := by decide +kernel
theorem dX5_insertAlphabetically_44 : decode cX5_insertAlphabetically 44 = .ok (.aload_n 1, 1) := by decide +kernel
theorem dX5_insertAlphabetically_45 : decode cX5_insertAlphabetically 45 = .ok (.invokevirtual 21, 3) := by decide +kernel
theorem dX5_insertAlphabetically_48 : decode cX5_insertAlphabetically 48 = .ok (.return_, 1) := by decide +kernel
set_option maxRecDepth 20000 in
theorem ggX5_insertByRank_X5_at : GoodIn wsX5_insertByRank wsX5_at := goodIn_r _ [6, 1, 7, 24, 25] (by decide +kernel) (by decide +kernel)
set_option maxRecDepth 20000 in
theorem gX5_insertByRank_X5_at : GoodIn wsX5_insertByRank (wsV RX5 25 RX5 yX5_at wsX5_at) := goodIn_app (goodIn_of _ (by decide +kernel)) ggX5_insertByRank_X5_at
set_option maxRecDepth 20000 in
theorem ggX5_insertByRank_X0_ranksAhead : GoodIn wsX5_insertByRank wsX0_ranksAhead := goodIn_r _ [12, 13, 14, 15, 16, 17, 11, 18, 19, 26, 27, 28, 29, 30, 31, 32, 33, 34, 35, 36] (by decide +kernel) (by decide +kernel)
set_option maxRecDepth 20000 in
theorem gX5_insertByRank_X0_ranksAhead : GoodIn wsX5_insertByRank (wsV RX5 33 RX0 yX0_ranksAhead wsX0_ranksAhead) := goodIn_app (goodIn_of _ (by decide +kernel)) ggX5_insertByRank_X0_ranksAhead
set_option maxRecDepth 20000 in
theorem ggX5_insertByRank_X5_insert : GoodIn wsX5_insertByRank wsX5_insert := goodIn_r _ [23, 1, 7, 24, 25] (by decide +kernel) (by decide +kernel)
set_option maxRecDepth 20000 in
theorem gX5_insertByRank_X5_insert : GoodIn wsX5_insertByRank (wsV RX5 21 RX5 yX5_insert wsX5_insert) := goodIn_app (goodIn_of _ (by decide +kernel)) ggX5_insertByRank_X5_insert
theorem dX5_insertByRank_0 : decode cX5_insertByRank 0 = .ok (.iconst 0, 1) := by decide +kernel
theorem dX5_insertByRank_1 : decode cX5_insertByRank 1 = .ok (.istore_n 2, 1) := by decide +kernel
theorem dX5_insertByRank_2 : decode cX5_insertByRank 2 = .ok (.iconst 0, 1) := by decide +kernel
theorem dX5_insertByRank_3 : decode cX5_insertByRank 3 = .ok (.istore_n 3, 1) := by decide +kernel
theorem dX5_insertByRank_4 : decode cX5_insertByRank 4 = .ok (.iload_n 3, 1) := by decide +kernel
theorem dX5_insertByRank_5 : decode cX5_insertByRank 5 = .ok (.aload_n 0, 1) := by decide +kernel
theorem dX5_insertByRank_6 : decode cX5_insertByRank 6 = .ok (.getfield 17, 3) := by decide +kernel
theorem dX5_insertByRank_9 : decode cX5_insertByRank 9 = .ok (.if_icmp .ge 33, 3) := by decide +kernel
theorem dX5_insertByRank_12 : decode cX5_insertByRank 12 = .ok (.aload_n 0, 1) := by decide +kernel
theorem dX5_insertByRank_13 : decode cX5_insertByRank 13 = .ok (.iload_n 3, 1) := by decide +kernel
theorem dX5_insertByRank_14 : decode cX5_insertByRank 14 = .ok (.invokevirtual 25, 3) := by decide +kernel
theorem dX5_insertByRank_17 : decode cX5_insertByRank 17 = .ok (.astore 4, 2) := by decide +kernel
theorem dX5_insertByRank_19 : decode cX5_insertByRank 19 = .ok (.aload 4, 2) := by decide +kernel
theorem dX5_insertByRank_21 : decode cX5_insertByRank 21 = .ok (.ifnull 15, 3) := by decide +kernel
theorem dX5_insertByRank_24 : decode cX5_insertByRank 24 = .ok (.aload 4, 2) := by decide +kernel
theorem dX5_insertByRank_26 : decode cX5_insertByRank 26 = .ok (.aload_n 1, 1) := by decide +kernel
theorem dX5_insertByRank_27 : decode cX5_insertByRank 27 = .ok (.invokevirtual 33, 3) := by decide +kernel
theorem dX5_insertByRank_30 : decode cX5_insertByRank 30 = .ok (.ifCond .eq 6, 3) := by decide +kernel
theorem dX5_insertByRank_33 : decode cX5_insertByRank 33 = .ok (.iinc 2 1, 3) := by decide +kernel
theorem dX5_insertByRank_36 : decode cX5_insertByRank 36 = .ok (.iinc 3 1, 3) := by decide +kernel
theorem dX5_insertByRank_39 : decode cX5_insertByRank 39 = .ok (.goto (-35), 3) := by decide +kernel
theorem dX5_insertByRank_42 : decode cX5_insertByRank 42 = .ok (.aload_n 0, 1) := by decide +kernel
theorem dX5_insertByRank_43 : decode cX5_insertByRank 43 = .ok (.iload_n 2, 1) := by decide +kernel
theorem dX5_insertByRank_44 : decode cX5_insertByRank 44 = .ok (.aload_n 1, 1) := by decide +kernel
theorem dX5_insertByRank_45 : decode cX5_insertByRank 45 = .ok (.invokevirtual 21, 3) := by decide +kernel
theorem dX5_insertByRank_48 : decode cX5_insertByRank 48 = .ok (.return_, 1) := by decide +kernel
theorem dX5_remove_0 : decode cX5_remove 0 = .ok (.iconst 0, 1) := by decide +kernel
theorem dX5_remove_1 : decode cX5_remove 1 = .ok (.istore_n 2, 1) := by decide +kernel
theorem dX5_remove_2 : decode cX5_remove 2 = .ok (.iconst 0, 1) := by decide +kernel
theorem dX5_remove_3 : decode cX5_remove 3 = .ok (.istore_n 3, 1) := by decide +kernel
theorem dX5_remove_4 : decode cX5_remove 4 = .ok (.iload_n 3, 1) := by decide +kernel
theorem dX5_remove_5 : decode cX5_remove 5 = .ok (.aload_n 0, 1) := by decide +kernel
theorem dX5_remove_6 : decode cX5_remove 6 = .ok (.getfield 17, 3) := by decide +kernel
theorem dX5_remove_9 : decode cX5_remove 9 = .ok (.if_icmp .ge 43, 3) := by decide +kernel
theorem dX5_remove_12 : decode cX5_remove 12 = .ok (.iload_n 3, 1) := by decide +kernel
theorem dX5_remove_13 : decode cX5_remove 13 = .ok (.aload_n 0, 1) := by decide +kernel
theorem dX5_remove_14 : decode cX5_remove 14 = .ok (.getfield 11, 3) := by decide +kernel
theorem dX5_remove_17 : decode cX5_remove 17 = .ok (.arraylength, 1) := by decide +kernel
theorem dX5_remove_18 : decode cX5_remove 18 = .ok (.if_icmp .ge 34, 3) := by decide +kernel
theorem dX5_remove_21 : decode cX5_remove 21 = .ok (.aload_n 0, 1) := by decide +kernel
theorem dX5_remove_22 : decode cX5_remove 22 = .ok (.getfield 11, 3) := by decide +kernel
theorem dX5_remove_25 : decode cX5_remove 25 = .ok (.iload_n 3, 1) := by decide +kernel
theorem dX5_remove_26 : decode cX5_remove 26 = .ok (.aaload, 1) := by decide +kernel
theorem dX5_remove_27 : decode cX5_remove 27 = .ok (.aload_n 1, 1) := by decide +kernel
theorem dX5_remove_28 : decode cX5_remove 28 = .ok (.if_acmp .eq 18, 3) := by decide +kernel
theorem dX5_remove_31 : decode cX5_remove 31 = .ok (.aload_n 0, 1) := by decide +kernel
theorem dX5_remove_32 : decode cX5_remove 32 = .ok (.getfield 11, 3) := by decide +kernel
theorem dX5_remove_35 : decode cX5_remove 35 = .ok (.iload_n 2, 1) := by decide +kernel
theorem dX5_remove_36 : decode cX5_remove 36 = .ok (.aload_n 0, 1) := by decide +kernel
theorem dX5_remove_37 : decode cX5_remove 37 = .ok (.getfield 11, 3) := by decide +kernel
theorem dX5_remove_40 : decode cX5_remove 40 = .ok (.iload_n 3, 1) := by decide +kernel
theorem dX5_remove_41 : decode cX5_remove 41 = .ok (.aaload, 1) := by decide +kernel
theorem dX5_remove_42 : decode cX5_remove 42 = .ok (.aastore, 1) := by decide +kernel
theorem dX5_remove_43 : decode cX5_remove 43 = .ok (.iinc 2 1, 3) := by decide +kernel
theorem dX5_remove_46 : decode cX5_remove 46 = .ok (.iinc 3 1, 3) := by decide +kernel
theorem dX5_remove_49 : decode cX5_remove 49 = .ok (.goto (-45), 3) := by decide +kernel
theorem dX5_remove_52 : decode cX5_remove 52 = .ok (.aload_n 0, 1) := by decide +kernel
theorem dX5_remove_53 : decode cX5_remove 53 = .ok (.iload_n 2, 1) := by decide +kernel
theorem dX5_remove_54 : decode cX5_remove 54 = .ok (.putfield 17, 3) := by decide +kernel
theorem dX5_remove_57 : decode cX5_remove 57 = .ok (.return_, 1) := by decide +kernel
theorem dX5_insert_0 : decode cX5_insert 0 = .ok (.iload_n 1, 1) := by decide +kernel
theorem dX5_insert_1 : decode cX5_insert 1 = .ok (.ifCond .lt 23, 3) := by decide +kernel
theorem dX5_insert_4 : decode cX5_insert 4 = .ok (.iload_n 1, 1) := by decide +kernel
theorem dX5_insert_5 : decode cX5_insert 5 = .ok (.aload_n 0, 1) := by decide +kernel
theorem dX5_insert_6 : decode cX5_insert 6 = .ok (.getfield 17, 3) := by decide +kernel
theorem dX5_insert_9 : decode cX5_insert 9 = .ok (.if_icmp .gt 15, 3) := by decide +kernel
theorem dX5_insert_12 : decode cX5_insert 12 = .ok (.aload_n 0, 1) := by decide +kernel
theorem dX5_insert_13 : decode cX5_insert 13 = .ok (.getfield 17, 3) := by decide +kernel
theorem dX5_insert_16 : decode cX5_insert 16 = .ok (.aload_n 0, 1) := by decide +kernel
theorem dX5_insert_17 : decode cX5_insert 17 = .ok (.getfield 11, 3) := by decide +kernel
theorem dX5_insert_20 : decode cX5_insert 20 = .ok (.arraylength, 1) := by decide +kernel
theorem dX5_insert_21 : decode cX5_insert 21 = .ok (.if_icmp .lt 4, 3) := by decide +kernel
theorem dX5_insert_24 : decode cX5_insert 24 = .ok (.return_, 1) := by decide +kernel
theorem dX5_insert_25 : decode cX5_insert 25 = .ok (.aload_n 0, 1) := by decide +kernel
theorem dX5_insert_26 : decode cX5_insert 26 = .ok (.getfield 17, 3) := by decide +kernel
theorem dX5_insert_29 : decode cX5_insert 29 = .ok (.istore_n 3, 1) := by decide +kernel
theorem dX5_insert_30 : decode cX5_insert 30 = .ok (.iload_n 3, 1) := by decide +kernel
theorem dX5_insert_31 : decode cX5_insert 31 = .ok (.iload_n 1, 1) := by decide +kernel
theorem dX5_insert_32 : decode cX5_insert 32 = .ok (.if_icmp .le 23, 3) := by decide +kernel
theorem dX5_insert_35 : decode cX5_insert 35 = .ok (.aload_n 0, 1) := by decide +kernel
theorem dX5_insert_36 : decode cX5_insert 36 = .ok (.getfield 11, 3) := by decide +kernel
theorem dX5_insert_39 : decode cX5_insert 39 = .ok (.iload_n 3, 1) := by decide +kernel
theorem dX5_insert_40 : decode cX5_insert 40 = .ok (.aload_n 0, 1) := by decide +kernel
theorem dX5_insert_41 : decode cX5_insert 41 = .ok (.getfield 11, 3) := by decide +kernel
theorem dX5_insert_44 : decode cX5_insert 44 = .ok (.iload_n 3, 1) := by decide +kernel
theorem dX5_insert_45 : decode cX5_insert 45 = .ok (.iconst 1, 1) := by decide +kernel
theorem dX5_insert_46 : decode cX5_insert 46 = .ok (.isub, 1) := by decide +kernel
theorem dX5_insert_47 : decode cX5_insert 47 = .ok (.aaload, 1) := by decide +kernel
theorem dX5_insert_48 : decode cX5_insert 48 = .ok (.aastore, 1) := by decide +kernel
theorem dX5_insert_49 : decode cX5_insert 49 = .ok (.iinc 3 (-1), 3) := by decide +kernel
theorem dX5_insert_52 : decode cX5_insert 52 = .ok (.goto (-22), 3) := by decide +kernel
theorem dX5_insert_55 : decode cX5_insert 55 = .ok (.aload_n 0, 1) := by decide +kernel
theorem dX5_insert_56 : decode cX5_insert 56 = .ok (.getfield 11, 3) := by decide +kernel
theorem dX5_insert_59 : decode cX5_insert 59 = .ok (.iload_n 1, 1) := by decide +kernel
theorem dX5_insert_60 : decode cX5_insert 60 = .ok (.aload_n 2, 1) := by decide +kernel
theorem dX5_insert_61 : decode cX5_insert 61 = .ok (.aastore, 1) := by decide +kernel
theorem dX5_insert_62 : decode cX5_insert 62 = .ok (.aload_n 0, 1) := by decide +kernel
theorem dX5_insert_63 : decode cX5_insert 63 = .ok (.dup, 1) := by decide +kernel
theorem dX5_insert_64 : decode cX5_insert 64 = .ok (.getfield 17, 3) := by decide +kernel
theorem dX5_insert_67 : decode cX5_insert 67 = .ok (.iconst 1, 1) := by decide +kernel
theorem dX5_insert_68 : decode cX5_insert 68 = .ok (.iadd, 1) := by decide +kernel
theorem dX5_insert_69 : decode cX5_insert 69 = .ok (.putfield 17, 3) := by decide +kernel
theorem dX5_insert_72 : decode cX5_insert 72 = .ok (.return_, 1) := by decide +kernel
set_option maxRecDepth 20000 in
theorem ggX6_init_X5_init : GoodIn wsX6_init wsX5_init := goodIn_r _ [9, 10, 2, 3, 11, 12, 13, 14] (by decide +kernel) (by decide +kernel)
set_option maxRecDepth 20000 in
theorem gX6_init_X5_init_n11 : GoodIn wsX6_init (wsX5_init) := ggX6_init_X5_init
theorem dX6_init_0 : decode cX6_init 0 = .ok (.aload_n 0, 1) := by decide +kernel
theorem dX6_init_1 : decode cX6_init 1 = .ok (.invokespecial 3, 3) := by decide +kernel
theorem dX6_init_4 : decode cX6_init 4 = .ok (.aload_n 0, 1) := by decide +kernel
theorem dX6_init_5 : decode cX6_init 5 = .ok (.new 9, 3) := by decide +kernel
theorem dX6_init_8 : decode cX6_init 8 = .ok (.dup, 1) := by decide +kernel
theorem dX6_init_9 : decode cX6_init 9 = .ok (.invokespecial 11, 3) := by decide +kernel
theorem dX6_init_12 : decode cX6_init 12 = .ok (.putfield 12, 3) := by decide +kernel
theorem dX6_init_15 : decode cX6_init 15 = .ok (.return_, 1) := by decide +kernel
set_option maxRecDepth 20000 in
theorem ggX6_size_X5_size : GoodIn wsX6_size wsX5_size := goodIn_r _ [6, 7, 9, 10] (by decide +kernel) (by decide +kernel)
set_option maxRecDepth 20000 in
theorem gX6_size_X5_size : GoodIn wsX6_size (wsV RX6 18 RX5 yX5_size wsX5_size) := goodIn_app (goodIn_of _ (by decide +kernel)) ggX6_size_X5_size
theorem dX6_size_0 : decode cX6_size 0 = .ok (.aload_n 0, 1) := by decide +kernel
theorem dX6_size_1 : decode cX6_size 1 = .ok (.getfield 12, 3) := by decide +kernel
theorem dX6_size_4 : decode cX6_size 4 = .ok (.invokevirtual 18, 3) := by decide +kernel
theorem dX6_size_7 : decode cX6_size 7 = .ok (.ireturn, 1) := by decide +kernel
set_option maxRecDepth 20000 in
theorem ggX6_isFull_X5_size : GoodIn wsX6_isFull wsX5_size := goodIn_r _ [6, 7, 9, 10] (by decide +kernel) (by decide +kernel)
set_option maxRecDepth 20000 in
theorem gX6_isFull_X5_size : GoodIn wsX6_isFull (wsV RX6 18 RX5 yX5_size wsX5_size) := goodIn_app (goodIn_of _ (by decide +kernel)) ggX6_isFull_X5_size
theorem dX6_isFull_0 : decode cX6_isFull 0 = .ok (.aload_n 0, 1) := by decide +kernel
theorem dX6_isFull_1 : decode cX6_isFull 1 = .ok (.getfield 12, 3) := by decide +kernel
theorem dX6_isFull_4 : decode cX6_isFull 4 = .ok (.invokevirtual 18, 3) := by decide +kernel
theorem dX6_isFull_7 : decode cX6_isFull 7 = .ok (.bipush 40, 2) := by decide +kernel
theorem dX6_isFull_9 : decode cX6_isFull 9 = .ok (.if_icmp .lt 7, 3) := by decide +kernel
theorem dX6_isFull_12 : decode cX6_isFull 12 = .ok (.iconst 1, 1) := by decide +kernel
theorem dX6_isFull_13 : decode cX6_isFull 13 = .ok (.goto 4, 3) := by decide +kernel
theorem dX6_isFull_16 : decode cX6_isFull 16 = .ok (.iconst 0, 1) := by decide +kernel
theorem dX6_isFull_17 : decode cX6_isFull 17 = .ok (.ireturn, 1) := by decide +kernel
set_option maxRecDepth 20000 in
theorem ggX6_find_X5_size : GoodIn wsX6_find wsX5_size := goodIn_r _ [6, 7, 25, 26] (by decide +kernel) (by decide +kernel)
set_option maxRecDepth 20000 in
theorem gX6_find_X5_size : GoodIn wsX6_find (wsV RX6 18 RX5 yX5_size wsX5_size) := goodIn_app (goodIn_of _ (by decide +kernel)) ggX6_find_X5_size
set_option maxRecDepth 20000 in
theorem ggX6_find_X5_at : GoodIn wsX6_find wsX5_at := goodIn_r _ [11, 7, 12, 25, 26] (by decide +kernel) (by decide +kernel)
set_option maxRecDepth 20000 in
theorem gX6_find_X5_at : GoodIn wsX6_find (wsV RX6 22 RX5 yX5_at wsX5_at) := goodIn_app (goodIn_of _ (by decide +kernel)) ggX6_find_X5_at
theorem dX6_find_0 : decode cX6_find 0 = .ok (.iconst 0, 1) := by decide +kernel
theorem dX6_find_1 : decode cX6_find 1 = .ok (.istore_n 2, 1) := by decide +kernel
theorem dX6_find_2 : decode cX6_find 2 = .ok (.iload_n 2, 1) := by decide +kernel
theorem dX6_find_3 : decode cX6_find 3 = .ok (.aload_n 0, 1) := by decide +kernel
theorem dX6_find_4 : decode cX6_find 4 = .ok (.getfield 12, 3) := by decide +kernel
theorem dX6_find_7 : decode cX6_find 7 = .ok (.invokevirtual 18, 3) := by decide +kernel
theorem dX6_find_10 : decode cX6_find 10 = .ok (.if_icmp .ge 39, 3) := by decide +kernel
theorem dX6_find_13 : decode cX6_find 13 = .ok (.aload_n 0, 1) := by decide +kernel
theorem dX6_find_14 : decode cX6_find 14 = .ok (.getfield 12, 3) := by decide +kernel
theorem dX6_find_17 : decode cX6_find 17 = .ok (.iload_n 2, 1) := by decide +kernel
theorem dX6_find_18 : decode cX6_find 18 = .ok (.invokevirtual 22, 3) := by decide +kernel
theorem dX6_find_21 : decode cX6_find 21 = .ok (.astore_n 3, 1) := by decide +kernel
theorem dX6_find_22 : decode cX6_find 22 = .ok (.aload_n 3, 1) := by decide +kernel
theorem dX6_find_23 : decode cX6_find 23 = .ok (.ifnull 20, 3) := by decide +kernel
theorem dX6_find_26 : decode cX6_find 26 = .ok (.aload_n 3, 1) := by decide +kernel
theorem dX6_find_27 : decode cX6_find 27 = .ok (.getfield 26, 3) := by decide +kernel
theorem dX6_find_30 : decode cX6_find 30 = .ok (.getfield 32, 3) := by decide +kernel
theorem dX6_find_33 : decode cX6_find 33 = .ok (.aload_n 1, 1) := by decide +kernel
theorem dX6_find_34 : decode cX6_find 34 = .ok (.getfield 32, 3) := by decide +kernel
theorem dX6_find_37 : decode cX6_find 37 = .ok (.lcmp, 1) := by decide +kernel
theorem dX6_find_38 : decode cX6_find 38 = .ok (.ifCond .ne 5, 3) := by decide +kernel
theorem dX6_find_41 : decode cX6_find 41 = .ok (.aload_n 3, 1) := by decide +kernel
theorem dX6_find_42 : decode cX6_find 42 = .ok (.areturn, 1) := by decide +kernel
theorem dX6_find_43 : decode cX6_find 43 = .ok (.iinc 2 1, 3) := by decide +kernel
theorem dX6_find_46 : decode cX6_find 46 = .ok (.goto (-44), 3) := by decide +kernel
theorem dX6_find_49 : decode cX6_find 49 = .ok (.aconst_null, 1) := by decide +kernel
theorem dX6_find_50 : decode cX6_find 50 = .ok (.areturn, 1) := by decide +kernel
set_option maxRecDepth 20000 in
theorem ggX6_plant_X5_at : GoodIn wsX6_plant wsX5_at := goodIn_r _ [9, 10, 11, 87, 88] (by decide +kernel) (by decide +kernel)
set_option maxRecDepth 20000 in
theorem gX6_plant_X5_at : GoodIn wsX6_plant (wsV RX6 22 RX5 yX5_at wsX5_at) := goodIn_app (goodIn_of _ (by decide +kernel)) ggX6_plant_X5_at
set_option maxRecDepth 20000 in
theorem ggX6_plant_X1_lettersApart : GoodIn wsX6_plant wsX1_lettersApart := goodIn_r _ [16, 17, 18, 19, 20, 15, 21, 22, 23, 24, 25, 26, 27, 28, 29, 30, 31, 32, 33, 34, 35, 36, 37, 38, 39, 40, 41, 42, 43, 44, 45, 46, 47, 48, 49, 50, 89, 90, 91, 92, 93] (by decide +kernel) (by decide +kernel)
set_option maxRecDepth 20000 in
theorem gX6_plant_X1_lettersApart : GoodIn wsX6_plant (wsV RX6 38 RX1 yX1_lettersApart wsX1_lettersApart) := goodIn_app (goodIn_of _ (by decide +kernel)) ggX6_plant_X1_lettersApart
set_option maxRecDepth 20000 in
theorem ggX6_plant_X6_child : GoodIn wsX6_plant wsX6_child := goodIn_r _ [55, 1, 56, 57, 58, 8, 59, 10, 5, 6, 7, 9, 11, 78, 79, 80, 81, 82, 83, 84, 85, 86, 87, 88] (by decide +kernel) (by decide +kernel)
set_option maxRecDepth 20000 in
theorem gX6_plant_X6_child : GoodIn wsX6_plant (wsV RX6 44 RX6 yX6_child wsX6_child) := goodIn_app (goodIn_of _ (by decide +kernel)) ggX6_plant_X6_child
set_option maxRecDepth 20000 in
theorem ggX6_plant_X0_init : GoodIn wsX6_plant wsX0_init := goodIn_r _ [62, 63, 64, 65, 66, 67, 68, 69, 79, 80, 81, 82, 83, 84, 85, 86] (by decide +kernel) (by decide +kernel)
set_option maxRecDepth 20000 in
theorem gX6_plant_X0_init : GoodIn wsX6_plant (wsX0_init) := ggX6_plant_X0_init
set_option maxRecDepth 20000 in
theorem ggX6_plant_X5_append : GoodIn wsX6_plant wsX5_append := goodIn_r _ [73, 10, 74, 75, 76, 8, 77, 11, 87, 88] (by decide +kernel) (by decide +kernel)
set_option maxRecDepth 20000 in
theorem gX6_plant_X5_append : GoodIn wsX6_plant (wsV RX6 51 RX5 yX5_append wsX5_append) := goodIn_app (goodIn_of _ (by decide +kernel)) ggX6_plant_X5_append
theorem dX6_plant_0 : decode cX6_plant 0 = .ok (.aconst_null, 1) := by decide +kernel
theorem dX6_plant_1 : decode cX6_plant 1 = .ok (.astore_n 3, 1) := by decide +kernel
theorem dX6_plant_2 : decode cX6_plant 2 = .ok (.aload_n 0, 1) := by decide +kernel
theorem dX6_plant_3 : decode cX6_plant 3 = .ok (.getfield 12, 3) := by decide +kernel
theorem dX6_plant_6 : decode cX6_plant 6 = .ok (.iconst 0, 1) := by decide +kernel
theorem dX6_plant_7 : decode cX6_plant 7 = .ok (.invokevirtual 22, 3) := by decide +kernel
theorem dX6_plant_10 : decode cX6_plant 10 = .ok (.astore 4, 2) := by decide +kernel
theorem dX6_plant_12 : decode cX6_plant 12 = .ok (.iconst 0, 1) := by decide +kernel
theorem dX6_plant_13 : decode cX6_plant 13 = .ok (.istore 5, 2) := by decide +kernel
theorem dX6_plant_15 : decode cX6_plant 15 = .ok (.iconst 0, 1) := by decide +kernel
theorem dX6_plant_16 : decode cX6_plant 16 = .ok (.istore 6, 2) := by decide +kernel
theorem dX6_plant_18 : decode cX6_plant 18 = .ok (.iload 6, 2) := by decide +kernel
theorem dX6_plant_20 : decode cX6_plant 20 = .ok (.bipush 40, 2) := by decide +kernel
theorem dX6_plant_22 : decode cX6_plant 22 = .ok (.if_icmp .ge 37, 3) := by decide +kernel
theorem dX6_plant_25 : decode cX6_plant 25 = .ok (.aload 4, 2) := by decide +kernel
theorem dX6_plant_27 : decode cX6_plant 27 = .ok (.ifnull 32, 3) := by decide +kernel
theorem dX6_plant_30 : decode cX6_plant 30 = .ok (.aload 4, 2) := by decide +kernel
theorem dX6_plant_32 : decode cX6_plant 32 = .ok (.astore_n 3, 1) := by decide +kernel
theorem dX6_plant_33 : decode cX6_plant 33 = .ok (.aload_n 1, 1) := by decide +kernel
theorem dX6_plant_34 : decode cX6_plant 34 = .ok (.aload_n 3, 1) := by decide +kernel
theorem dX6_plant_35 : decode cX6_plant 35 = .ok (.getfield 26, 3) := by decide +kernel
theorem dX6_plant_38 : decode cX6_plant 38 = .ok (.aload_n 2, 1) := by decide +kernel
theorem dX6_plant_39 : decode cX6_plant 39 = .ok (.invokevirtual 38, 3) := by decide +kernel
theorem dX6_plant_42 : decode cX6_plant 42 = .ok (.istore 5, 2) := by decide +kernel
theorem dX6_plant_44 : decode cX6_plant 44 = .ok (.aload_n 0, 1) := by decide +kernel
theorem dX6_plant_45 : decode cX6_plant 45 = .ok (.aload_n 3, 1) := by decide +kernel
theorem dX6_plant_46 : decode cX6_plant 46 = .ok (.iload 5, 2) := by decide +kernel
theorem dX6_plant_48 : decode cX6_plant 48 = .ok (.invokevirtual 44, 3) := by decide +kernel
theorem dX6_plant_51 : decode cX6_plant 51 = .ok (.astore 4, 2) := by decide +kernel
theorem dX6_plant_53 : decode cX6_plant 53 = .ok (.iinc 6 1, 3) := by decide +kernel
theorem dX6_plant_56 : decode cX6_plant 56 = .ok (.goto (-38), 3) := by decide +kernel
theorem dX6_plant_59 : decode cX6_plant 59 = .ok (.new 27, 3) := by decide +kernel
theorem dX6_plant_62 : decode cX6_plant 62 = .ok (.dup, 1) := by decide +kernel
theorem dX6_plant_63 : decode cX6_plant 63 = .ok (.aload_n 2, 1) := by decide +kernel
theorem dX6_plant_64 : decode cX6_plant 64 = .ok (.aload_n 3, 1) := by decide +kernel
theorem dX6_plant_65 : decode cX6_plant 65 = .ok (.iload 5, 2) := by decide +kernel
theorem dX6_plant_67 : decode cX6_plant 67 = .ok (.invokespecial 48, 3) := by decide +kernel
theorem dX6_plant_70 : decode cX6_plant 70 = .ok (.astore 6, 2) := by decide +kernel
theorem dX6_plant_72 : decode cX6_plant 72 = .ok (.aload_n 0, 1) := by decide +kernel
theorem dX6_plant_73 : decode cX6_plant 73 = .ok (.getfield 12, 3) := by decide +kernel
theorem dX6_plant_76 : decode cX6_plant 76 = .ok (.aload 6, 2) := by decide +kernel
theorem dX6_plant_78 : decode cX6_plant 78 = .ok (.invokevirtual 51, 3) := by decide +kernel
theorem dX6_plant_81 : decode cX6_plant 81 = .ok (.aload 6, 2) := by decide +kernel
theorem dX6_plant_83 : decode cX6_plant 83 = .ok (.areturn, 1) := by decide +kernel
set_option maxRecDepth 20000 in
theorem ggX6_search_X5_size : GoodIn wsX6_search wsX5_size := goodIn_r _ [6, 7, 68, 69] (by decide +kernel) (by decide +kernel)
set_option maxRecDepth 20000 in
theorem gX6_search_X5_size : GoodIn wsX6_search (wsV RX6 18 RX5 yX5_size wsX5_size) := goodIn_app (goodIn_of _ (by decide +kernel)) ggX6_search_X5_size
set_option maxRecDepth 20000 in
theorem ggX6_search_X5_at : GoodIn wsX6_search wsX5_at := goodIn_r _ [11, 7, 12, 68, 69] (by decide +kernel) (by decide +kernel)
set_option maxRecDepth 20000 in
theorem gX6_search_X5_at : GoodIn wsX6_search (wsV RX6 22 RX5 yX5_at wsX5_at) := goodIn_app (goodIn_of _ (by decide +kernel)) ggX6_search_X5_at
set_option maxRecDepth 20000 in
theorem ggX6_search_X6_isEntered : GoodIn wsX6_search wsX6_isEntered := goodIn_r _ [16, 17, 18, 19, 20, 60, 61, 62, 63, 64, 65, 66, 67] (by decide +kernel) (by decide +kernel)
set_option maxRecDepth 20000 in
theorem gX6_search_X6_isEntered : GoodIn wsX6_search (va_wsS RX6 55 yX6_isEntered wsX6_isEntered) := goodIn_app (goodIn_of _ (by decide +kernel)) ggX6_search_X6_isEntered
set_option maxRecDepth 20000 in
theorem ggX6_search_X1_lettersApart : GoodIn wsX6_search wsX1_lettersApart := goodIn_r _ [25, 26, 27, 28, 29, 24, 30, 31, 32, 33, 34, 35, 36, 37, 38, 39, 40, 41, 42, 43, 44, 45, 46, 47, 48, 49, 50, 51, 52, 53, 19, 54, 55, 56, 57, 58, 70, 71, 72, 73, 74] (by decide +kernel) (by decide +kernel)
set_option maxRecDepth 20000 in
theorem gX6_search_X1_lettersApart : GoodIn wsX6_search (wsV RX6 38 RX1 yX1_lettersApart wsX1_lettersApart) := goodIn_app (goodIn_of _ (by decide +kernel)) ggX6_search_X1_lettersApart
theorem dX6_search_0 : decode cX6_search 0 = .ok (.iconst 0, 1) := by decide +kernel
theorem dX6_search_1 : decode cX6_search 1 = .ok (.istore 4, 2) := by decide +kernel
theorem dX6_search_3 : decode cX6_search 3 = .ok (.iconst 0, 1) := by decide +kernel
theorem dX6_search_4 : decode cX6_search 4 = .ok (.istore 5, 2) := by decide +kernel
theorem dX6_search_6 : decode cX6_search 6 = .ok (.iload 5, 2) := by decide +kernel
theorem dX6_search_8 : decode cX6_search 8 = .ok (.aload_n 0, 1) := by decide +kernel
theorem dX6_search_9 : decode cX6_search 9 = .ok (.getfield 12, 3) := by decide +kernel
theorem dX6_search_12 : decode cX6_search 12 = .ok (.invokevirtual 18, 3) := by decide +kernel
theorem dX6_search_15 : decode cX6_search 15 = .ok (.if_icmp .ge 62, 3) := by decide +kernel
theorem dX6_search_18 : decode cX6_search 18 = .ok (.aload_n 0, 1) := by decide +kernel
theorem dX6_search_19 : decode cX6_search 19 = .ok (.getfield 12, 3) := by decide +kernel
theorem dX6_search_22 : decode cX6_search 22 = .ok (.iload 5, 2) := by decide +kernel
theorem dX6_search_24 : decode cX6_search 24 = .ok (.invokevirtual 22, 3) := by decide +kernel
theorem dX6_search_27 : decode cX6_search 27 = .ok (.astore 6, 2) := by decide +kernel
theorem dX6_search_29 : decode cX6_search 29 = .ok (.aload 6, 2) := by decide +kernel
theorem dX6_search_31 : decode cX6_search 31 = .ok (.ifnull 40, 3) := by decide +kernel
theorem dX6_search_34 : decode cX6_search 34 = .ok (.aload 6, 2) := by decide +kernel
theorem dX6_search_36 : decode cX6_search 36 = .ok (.aload 6, 2) := by decide +kernel
theorem dX6_search_38 : decode cX6_search 38 = .ok (.iload_n 3, 1) := by decide +kernel
theorem dX6_search_39 : decode cX6_search 39 = .ok (.invokestatic 55, 3) := by decide +kernel
theorem dX6_search_42 : decode cX6_search 42 = .ok (.putfield 59, 3) := by decide +kernel
theorem dX6_search_45 : decode cX6_search 45 = .ok (.aload 6, 2) := by decide +kernel
theorem dX6_search_47 : decode cX6_search 47 = .ok (.getfield 59, 3) := by decide +kernel
theorem dX6_search_50 : decode cX6_search 50 = .ok (.ifCond .eq 21, 3) := by decide +kernel
theorem dX6_search_53 : decode cX6_search 53 = .ok (.aload 6, 2) := by decide +kernel
theorem dX6_search_55 : decode cX6_search 55 = .ok (.aload_n 1, 1) := by decide +kernel
theorem dX6_search_56 : decode cX6_search 56 = .ok (.aload 6, 2) := by decide +kernel
theorem dX6_search_58 : decode cX6_search 58 = .ok (.getfield 26, 3) := by decide +kernel
theorem dX6_search_61 : decode cX6_search 61 = .ok (.aload_n 2, 1) := by decide +kernel
theorem dX6_search_62 : decode cX6_search 62 = .ok (.invokevirtual 38, 3) := by decide +kernel
theorem dX6_search_65 : decode cX6_search 65 = .ok (.putfield 63, 3) := by decide +kernel
theorem dX6_search_68 : decode cX6_search 68 = .ok (.iinc 4 1, 3) := by decide +kernel
theorem dX6_search_71 : decode cX6_search 71 = .ok (.iinc 5 1, 3) := by decide +kernel
theorem dX6_search_74 : decode cX6_search 74 = .ok (.goto (-68), 3) := by decide +kernel
theorem dX6_search_77 : decode cX6_search 77 = .ok (.iload 4, 2) := by decide +kernel
theorem dX6_search_79 : decode cX6_search 79 = .ok (.ireturn, 1) := by decide +kernel
theorem dX6_isEntered_0 : decode cX6_isEntered 0 = .ok (.aload_n 0, 1) := by decide +kernel
theorem dX6_isEntered_1 : decode cX6_isEntered 1 = .ok (.getfield 67, 3) := by decide +kernel
theorem dX6_isEntered_4 : decode cX6_isEntered 4 = .ok (.astore_n 2, 1) := by decide +kernel
theorem dX6_isEntered_5 : decode cX6_isEntered 5 = .ok (.aload_n 2, 1) := by decide +kernel
theorem dX6_isEntered_6 : decode cX6_isEntered 6 = .ok (.ifnonnull 5, 3) := by decide +kernel
theorem dX6_isEntered_9 : decode cX6_isEntered 9 = .ok (.iconst 1, 1) := by decide +kernel
theorem dX6_isEntered_10 : decode cX6_isEntered 10 = .ok (.ireturn, 1) := by decide +kernel
theorem dX6_isEntered_11 : decode cX6_isEntered 11 = .ok (.aload_n 2, 1) := by decide +kernel
theorem dX6_isEntered_12 : decode cX6_isEntered 12 = .ok (.getfield 59, 3) := by decide +kernel
theorem dX6_isEntered_15 : decode cX6_isEntered 15 = .ok (.ifCond .eq 23, 3) := by decide +kernel
theorem dX6_isEntered_18 : decode cX6_isEntered 18 = .ok (.aload_n 0, 1) := by decide +kernel
theorem dX6_isEntered_19 : decode cX6_isEntered 19 = .ok (.getfield 71, 3) := by decide +kernel
theorem dX6_isEntered_22 : decode cX6_isEntered 22 = .ok (.aload_n 2, 1) := by decide +kernel
theorem dX6_isEntered_23 : decode cX6_isEntered 23 = .ok (.getfield 63, 3) := by decide +kernel
theorem dX6_isEntered_26 : decode cX6_isEntered 26 = .ok (.isub, 1) := by decide +kernel
theorem dX6_isEntered_27 : decode cX6_isEntered 27 = .ok (.invokestatic 74, 3) := by decide +kernel
theorem dX6_isEntered_30 : decode cX6_isEntered 30 = .ok (.iload_n 1, 1) := by decide +kernel
theorem dX6_isEntered_31 : decode cX6_isEntered 31 = .ok (.if_icmp .gt 7, 3) := by decide +kernel
theorem dX6_isEntered_34 : decode cX6_isEntered 34 = .ok (.iconst 1, 1) := by decide +kernel
theorem dX6_isEntered_35 : decode cX6_isEntered 35 = .ok (.goto 4, 3) := by decide +kernel
theorem dX6_isEntered_38 : decode cX6_isEntered 38 = .ok (.iconst 0, 1) := by decide +kernel
theorem dX6_isEntered_39 : decode cX6_isEntered 39 = .ok (.ireturn, 1) := by decide +kernel
set_option maxRecDepth 20000 in
theorem ggX6_child_X5_size : GoodIn wsX6_child wsX5_size := goodIn_r _ [6, 7, 22, 23] (by decide +kernel) (by decide +kernel)
set_option maxRecDepth 20000 in
theorem gX6_child_X5_size : GoodIn wsX6_child (wsV RX6 18 RX5 yX5_size wsX5_size) := goodIn_app (goodIn_of _ (by decide +kernel)) ggX6_child_X5_size
set_option maxRecDepth 20000 in
theorem ggX6_child_X5_at : GoodIn wsX6_child wsX5_at := goodIn_r _ [11, 7, 12, 22, 23] (by decide +kernel) (by decide +kernel)
set_option maxRecDepth 20000 in
theorem gX6_child_X5_at : GoodIn wsX6_child (wsV RX6 22 RX5 yX5_at wsX5_at) := goodIn_app (goodIn_of _ (by decide +kernel)) ggX6_child_X5_at
theorem dX6_child_0 : decode cX6_child 0 = .ok (.iconst 0, 1) := by decide +kernel
theorem dX6_child_1 : decode cX6_child 1 = .ok (.istore_n 3, 1) := by decide +kernel
theorem dX6_child_2 : decode cX6_child 2 = .ok (.iload_n 3, 1) := by decide +kernel
theorem dX6_child_3 : decode cX6_child 3 = .ok (.aload_n 0, 1) := by decide +kernel
theorem dX6_child_4 : decode cX6_child 4 = .ok (.getfield 12, 3) := by decide +kernel
theorem dX6_child_7 : decode cX6_child 7 = .ok (.invokevirtual 18, 3) := by decide +kernel
theorem dX6_child_10 : decode cX6_child 10 = .ok (.if_icmp .ge 45, 3) := by decide +kernel
theorem dX6_child_13 : decode cX6_child 13 = .ok (.aload_n 0, 1) := by decide +kernel
theorem dX6_child_14 : decode cX6_child 14 = .ok (.getfield 12, 3) := by decide +kernel
theorem dX6_child_17 : decode cX6_child 17 = .ok (.iload_n 3, 1) := by decide +kernel
theorem dX6_child_18 : decode cX6_child 18 = .ok (.invokevirtual 22, 3) := by decide +kernel
theorem dX6_child_21 : decode cX6_child 21 = .ok (.astore 4, 2) := by decide +kernel
theorem dX6_child_23 : decode cX6_child 23 = .ok (.aload 4, 2) := by decide +kernel
theorem dX6_child_25 : decode cX6_child 25 = .ok (.ifnull 24, 3) := by decide +kernel
theorem dX6_child_28 : decode cX6_child 28 = .ok (.aload 4, 2) := by decide +kernel
theorem dX6_child_30 : decode cX6_child 30 = .ok (.getfield 67, 3) := by decide +kernel
theorem dX6_child_33 : decode cX6_child 33 = .ok (.aload_n 1, 1) := by decide +kernel
theorem dX6_child_34 : decode cX6_child 34 = .ok (.if_acmp .ne 15, 3) := by decide +kernel
theorem dX6_child_37 : decode cX6_child 37 = .ok (.aload 4, 2) := by decide +kernel
theorem dX6_child_39 : decode cX6_child 39 = .ok (.getfield 71, 3) := by decide +kernel
theorem dX6_child_42 : decode cX6_child 42 = .ok (.iload_n 2, 1) := by decide +kernel
theorem dX6_child_43 : decode cX6_child 43 = .ok (.if_icmp .ne 6, 3) := by decide +kernel
theorem dX6_child_46 : decode cX6_child 46 = .ok (.aload 4, 2) := by decide +kernel
theorem dX6_child_48 : decode cX6_child 48 = .ok (.areturn, 1) := by decide +kernel
theorem dX6_child_49 : decode cX6_child 49 = .ok (.iinc 3 1, 3) := by decide +kernel
theorem dX6_child_52 : decode cX6_child 52 = .ok (.goto (-50), 3) := by decide +kernel
theorem dX6_child_55 : decode cX6_child 55 = .ok (.aconst_null, 1) := by decide +kernel
theorem dX6_child_56 : decode cX6_child 56 = .ok (.areturn, 1) := by decide +kernel
set_option maxRecDepth 20000 in
theorem ggX7_init_X4_init : GoodIn wsX7_init wsX4_init := goodIn_r _ [10, 11, 2, 3, 12, 13, 14, 15] (by decide +kernel) (by decide +kernel)
set_option maxRecDepth 20000 in
theorem gX7_init_X4_init : GoodIn wsX7_init (wsX4_init) := ggX7_init_X4_init
theorem dX7_init_0 : decode cX7_init 0 = .ok (.aload_n 0, 1) := by decide +kernel
theorem dX7_init_1 : decode cX7_init 1 = .ok (.invokespecial 3, 3) := by decide +kernel
theorem dX7_init_4 : decode cX7_init 4 = .ok (.aload_n 0, 1) := by decide +kernel
theorem dX7_init_5 : decode cX7_init 5 = .ok (.new 9, 3) := by decide +kernel
theorem dX7_init_8 : decode cX7_init 8 = .ok (.dup, 1) := by decide +kernel
theorem dX7_init_9 : decode cX7_init 9 = .ok (.sipush 401, 3) := by decide +kernel
theorem dX7_init_12 : decode cX7_init 12 = .ok (.invokespecial 11, 3) := by decide +kernel
theorem dX7_init_15 : decode cX7_init 15 = .ok (.putfield 14, 3) := by decide +kernel
theorem dX7_init_18 : decode cX7_init 18 = .ok (.return_, 1) := by decide +kernel
set_option maxRecDepth 20000 in
theorem ggX7_nodesOf_X5_size : GoodIn wsX7_nodesOf wsX5_size := goodIn_r _ [5, 6, 39, 40] (by decide +kernel) (by decide +kernel)
set_option maxRecDepth 20000 in
theorem gX7_nodesOf_X5_size : GoodIn wsX7_nodesOf (wsV RX7 20 RX5 yX5_size wsX5_size) := goodIn_app (goodIn_of _ (by decide +kernel)) ggX7_nodesOf_X5_size
set_option maxRecDepth 20000 in
theorem ggX7_nodesOf_X5_at : GoodIn wsX7_nodesOf wsX5_at := goodIn_r _ [10, 6, 11, 39, 40] (by decide +kernel) (by decide +kernel)
set_option maxRecDepth 20000 in
theorem gX7_nodesOf_X5_at : GoodIn wsX7_nodesOf (wsV RX7 26 RX5 yX5_at wsX5_at) := goodIn_app (goodIn_of _ (by decide +kernel)) ggX7_nodesOf_X5_at
set_option maxRecDepth 20000 in
theorem ggX7_nodesOf_X7_lettersPassed : GoodIn wsX7_nodesOf wsX7_lettersPassed := goodIn_r _ [15, 7, 8, 9, 4, 10, 6, 11, 16, 17, 18, 19, 20, 21, 22, 23, 24, 25, 26, 27, 28, 29, 30, 31, 32, 33, 34, 35, 39, 40, 36, 37, 38] (by decide +kernel) (by decide +kernel)
set_option maxRecDepth 20000 in
theorem gX7_nodesOf_X7_lettersPassed : GoodIn wsX7_nodesOf (va_wsS RX7 42 yX7_lettersPassed wsX7_lettersPassed) := goodIn_app (goodIn_of _ (by decide +kernel)) ggX7_nodesOf_X7_lettersPassed
theorem dX7_nodesOf_0 : decode cX7_nodesOf 0 = .ok (.iconst 1, 1) := by decide +kernel
theorem dX7_nodesOf_1 : decode cX7_nodesOf 1 = .ok (.istore_n 1, 1) := by decide +kernel
theorem dX7_nodesOf_2 : decode cX7_nodesOf 2 = .ok (.iconst 0, 1) := by decide +kernel
theorem dX7_nodesOf_3 : decode cX7_nodesOf 3 = .ok (.istore_n 2, 1) := by decide +kernel
theorem dX7_nodesOf_4 : decode cX7_nodesOf 4 = .ok (.iload_n 2, 1) := by decide +kernel
theorem dX7_nodesOf_5 : decode cX7_nodesOf 5 = .ok (.aload_n 0, 1) := by decide +kernel
theorem dX7_nodesOf_6 : decode cX7_nodesOf 6 = .ok (.invokevirtual 20, 3) := by decide +kernel
theorem dX7_nodesOf_9 : decode cX7_nodesOf 9 = .ok (.if_icmp .ge 35, 3) := by decide +kernel
theorem dX7_nodesOf_12 : decode cX7_nodesOf 12 = .ok (.aload_n 0, 1) := by decide +kernel
theorem dX7_nodesOf_13 : decode cX7_nodesOf 13 = .ok (.iload_n 2, 1) := by decide +kernel
theorem dX7_nodesOf_14 : decode cX7_nodesOf 14 = .ok (.invokevirtual 26, 3) := by decide +kernel
theorem dX7_nodesOf_17 : decode cX7_nodesOf 17 = .ok (.astore_n 3, 1) := by decide +kernel
theorem dX7_nodesOf_18 : decode cX7_nodesOf 18 = .ok (.aload_n 3, 1) := by decide +kernel
theorem dX7_nodesOf_19 : decode cX7_nodesOf 19 = .ok (.ifnull 19, 3) := by decide +kernel
theorem dX7_nodesOf_22 : decode cX7_nodesOf 22 = .ok (.iload_n 1, 1) := by decide +kernel
theorem dX7_nodesOf_23 : decode cX7_nodesOf 23 = .ok (.aload_n 3, 1) := by decide +kernel
theorem dX7_nodesOf_24 : decode cX7_nodesOf 24 = .ok (.getfield 30, 3) := by decide +kernel
theorem dX7_nodesOf_27 : decode cX7_nodesOf 27 = .ok (.getfield 36, 3) := by decide +kernel
theorem dX7_nodesOf_30 : decode cX7_nodesOf 30 = .ok (.aload_n 0, 1) := by decide +kernel
theorem dX7_nodesOf_31 : decode cX7_nodesOf 31 = .ok (.iload_n 2, 1) := by decide +kernel
theorem dX7_nodesOf_32 : decode cX7_nodesOf 32 = .ok (.invokestatic 42, 3) := by decide +kernel
theorem dX7_nodesOf_35 : decode cX7_nodesOf 35 = .ok (.isub, 1) := by decide +kernel
theorem dX7_nodesOf_36 : decode cX7_nodesOf 36 = .ok (.iadd, 1) := by decide +kernel
theorem dX7_nodesOf_37 : decode cX7_nodesOf 37 = .ok (.istore_n 1, 1) := by decide +kernel
theorem dX7_nodesOf_38 : decode cX7_nodesOf 38 = .ok (.iinc 2 1, 3) := by decide +kernel
theorem dX7_nodesOf_41 : decode cX7_nodesOf 41 = .ok (.goto (-37), 3) := by decide +kernel
theorem dX7_nodesOf_44 : decode cX7_nodesOf 44 = .ok (.iload_n 1, 1) := by decide +kernel
theorem dX7_nodesOf_45 : decode cX7_nodesOf 45 = .ok (.ireturn, 1) := by decide +kernel
set_option maxRecDepth 20000 in
theorem ggX7_reach_X4_clear : GoodIn wsX7_reach wsX4_clear := goodIn_r _ [6, 7, 98, 99] (by decide +kernel) (by decide +kernel)
set_option maxRecDepth 20000 in
theorem gX7_reach_X4_clear : GoodIn wsX7_reach (wsV RX7 46 RX4 yX4_clear wsX4_clear) := goodIn_app (goodIn_of _ (by decide +kernel)) ggX7_reach_X4_clear
set_option maxRecDepth 20000 in
theorem ggX7_reach_X1_startRows : GoodIn wsX7_reach wsX1_startRows := goodIn_r _ [12, 13, 14, 15, 16, 17, 18, 19, 20, 21, 22, 100, 101, 102, 103, 104] (by decide +kernel) (by decide +kernel)
set_option maxRecDepth 20000 in
theorem gX7_reach_X1_startRows : GoodIn wsX7_reach (wsV RX7 49 RX1 yX1_startRows wsX1_startRows) := goodIn_app (goodIn_of _ (by decide +kernel)) ggX7_reach_X1_startRows
set_option maxRecDepth 20000 in
theorem ggX7_reach_X7_visit : GoodIn wsX7_reach wsX7_visit := goodIn_r _ [27, 1, 28, 29, 30, 11, 31, 13, 32, 33, 34, 35, 36, 37, 38, 17, 39, 19, 20, 21, 22, 40, 41, 42, 43, 44, 45, 46, 5, 47, 7, 48, 49, 50, 51, 52, 89, 103, 100, 101, 102, 104, 98, 99] (by decide +kernel) (by decide +kernel)
set_option maxRecDepth 20000 in
theorem gX7_reach_X7_visit : GoodIn wsX7_reach (wsV RX7 55 RX7 yX7_visit wsX7_visit) := goodIn_app (goodIn_of _ (by decide +kernel)) ggX7_reach_X7_visit
set_option maxRecDepth 20000 in
theorem ggX7_reach_X5_size : GoodIn wsX7_reach wsX5_size := goodIn_r _ [57, 58, 105, 106] (by decide +kernel) (by decide +kernel)
set_option maxRecDepth 20000 in
theorem gX7_reach_X5_size : GoodIn wsX7_reach (wsV RX7 20 RX5 yX5_size wsX5_size) := goodIn_app (goodIn_of _ (by decide +kernel)) ggX7_reach_X5_size
set_option maxRecDepth 20000 in
theorem ggX7_reach_X5_at : GoodIn wsX7_reach wsX5_at := goodIn_r _ [62, 58, 63, 105, 106] (by decide +kernel) (by decide +kernel)
set_option maxRecDepth 20000 in
theorem gX7_reach_X5_at : GoodIn wsX7_reach (wsV RX7 26 RX5 yX5_at wsX5_at) := goodIn_app (goodIn_of _ (by decide +kernel)) ggX7_reach_X5_at
set_option maxRecDepth 20000 in
theorem ggX7_reach_X7_lettersPassed : GoodIn wsX7_reach wsX7_lettersPassed := goodIn_r _ [66, 59, 60, 61, 56, 62, 58, 63, 67, 68, 69, 70, 71, 72, 73, 74, 75, 76, 77, 78, 90, 91, 92, 93, 94, 95, 96, 97, 105, 106, 100, 101, 102] (by decide +kernel) (by decide +kernel)
set_option maxRecDepth 20000 in
theorem gX7_reach_X7_lettersPassed : GoodIn wsX7_reach (va_wsS RX7 42 yX7_lettersPassed wsX7_lettersPassed) := goodIn_app (goodIn_of _ (by decide +kernel)) ggX7_reach_X7_lettersPassed
set_option maxRecDepth 20000 in
theorem ggX7_reach_X7_reachAlong : GoodIn wsX7_reach wsX7_reachAlong := goodIn_r _ [82, 83, 74, 75, 70, 76, 72, 77, 78, 84, 85, 86, 11, 87, 13, 32, 33, 34, 35, 14, 15, 16, 17, 18, 19, 20, 21, 22, 36, 37, 38, 39, 88, 23, 24, 25, 26, 27, 1, 28, 29, 30, 31, 40, 41, 42, 43, 44, 45, 46, 5, 47, 7, 48, 49, 50, 51, 52, 100, 101, 102, 103, 104, 89, 98, 99] (by decide +kernel) (by decide +kernel)
set_option maxRecDepth 20000 in
theorem gX7_reach_X7_reachAlong : GoodIn wsX7_reach (wsV RX7 59 RX7 yX7_reachAlong wsX7_reachAlong) := goodIn_app (goodIn_of _ (by decide +kernel)) ggX7_reach_X7_reachAlong
theorem dX7_reach_0 : decode cX7_reach 0 = .ok (.aload_n 0, 1) := by decide +kernel
theorem dX7_reach_1 : decode cX7_reach 1 = .ok (.getfield 14, 3) := by decide +kernel
theorem dX7_reach_4 : decode cX7_reach 4 = .ok (.invokevirtual 46, 3) := by decide +kernel
theorem dX7_reach_7 : decode cX7_reach 7 = .ok (.aload_n 1, 1) := by decide +kernel
theorem dX7_reach_8 : decode cX7_reach 8 = .ok (.aload_n 3, 1) := by decide +kernel
theorem dX7_reach_9 : decode cX7_reach 9 = .ok (.invokevirtual 49, 3) := by decide +kernel
theorem dX7_reach_12 : decode cX7_reach 12 = .ok (.aload_n 0, 1) := by decide +kernel
theorem dX7_reach_13 : decode cX7_reach 13 = .ok (.aload_n 1, 1) := by decide +kernel
theorem dX7_reach_14 : decode cX7_reach 14 = .ok (.iconst 0, 1) := by decide +kernel
theorem dX7_reach_15 : decode cX7_reach 15 = .ok (.aload_n 3, 1) := by decide +kernel
theorem dX7_reach_16 : decode cX7_reach 16 = .ok (.iload 4, 2) := by decide +kernel
theorem dX7_reach_18 : decode cX7_reach 18 = .ok (.invokevirtual 55, 3) := by decide +kernel
theorem dX7_reach_21 : decode cX7_reach 21 = .ok (.istore 5, 2) := by decide +kernel
theorem dX7_reach_23 : decode cX7_reach 23 = .ok (.iconst 0, 1) := by decide +kernel
theorem dX7_reach_24 : decode cX7_reach 24 = .ok (.istore 6, 2) := by decide +kernel
theorem dX7_reach_26 : decode cX7_reach 26 = .ok (.iload 6, 2) := by decide +kernel
theorem dX7_reach_28 : decode cX7_reach 28 = .ok (.aload_n 2, 1) := by decide +kernel
theorem dX7_reach_29 : decode cX7_reach 29 = .ok (.invokevirtual 20, 3) := by decide +kernel
theorem dX7_reach_32 : decode cX7_reach 32 = .ok (.if_icmp .ge 46, 3) := by decide +kernel
theorem dX7_reach_35 : decode cX7_reach 35 = .ok (.aload_n 2, 1) := by decide +kernel
theorem dX7_reach_36 : decode cX7_reach 36 = .ok (.iload 6, 2) := by decide +kernel
theorem dX7_reach_38 : decode cX7_reach 38 = .ok (.invokevirtual 26, 3) := by decide +kernel
theorem dX7_reach_41 : decode cX7_reach 41 = .ok (.astore 7, 2) := by decide +kernel
theorem dX7_reach_43 : decode cX7_reach 43 = .ok (.aload 7, 2) := by decide +kernel
theorem dX7_reach_45 : decode cX7_reach 45 = .ok (.ifnull 27, 3) := by decide +kernel
theorem dX7_reach_48 : decode cX7_reach 48 = .ok (.iload 5, 2) := by decide +kernel
theorem dX7_reach_50 : decode cX7_reach 50 = .ok (.aload_n 0, 1) := by decide +kernel
theorem dX7_reach_51 : decode cX7_reach 51 = .ok (.aload_n 1, 1) := by decide +kernel
theorem dX7_reach_52 : decode cX7_reach 52 = .ok (.aload 7, 2) := by decide +kernel
theorem dX7_reach_54 : decode cX7_reach 54 = .ok (.getfield 30, 3) := by decide +kernel
theorem dX7_reach_57 : decode cX7_reach 57 = .ok (.aload_n 2, 1) := by decide +kernel
theorem dX7_reach_58 : decode cX7_reach 58 = .ok (.iload 6, 2) := by decide +kernel
theorem dX7_reach_60 : decode cX7_reach 60 = .ok (.invokestatic 42, 3) := by decide +kernel
theorem dX7_reach_63 : decode cX7_reach 63 = .ok (.aload_n 3, 1) := by decide +kernel
theorem dX7_reach_64 : decode cX7_reach 64 = .ok (.iload 4, 2) := by decide +kernel
theorem dX7_reach_66 : decode cX7_reach 66 = .ok (.invokevirtual 59, 3) := by decide +kernel
theorem dX7_reach_69 : decode cX7_reach 69 = .ok (.iadd, 1) := by decide +kernel
theorem dX7_reach_70 : decode cX7_reach 70 = .ok (.istore 5, 2) := by decide +kernel
theorem dX7_reach_72 : decode cX7_reach 72 = .ok (.iinc 6 1, 3) := by decide +kernel
theorem dX7_reach_75 : decode cX7_reach 75 = .ok (.goto (-49), 3) := by decide +kernel
theorem dX7_reach_78 : decode cX7_reach 78 = .ok (.iload 5, 2) := by decide +kernel
theorem dX7_reach_80 : decode cX7_reach 80 = .ok (.ireturn, 1) := by decide +kernel
set_option maxRecDepth 20000 in
theorem ggX7_rowsSeen_X4_size : GoodIn wsX7_rowsSeen wsX4_size := goodIn_r _ [6, 7, 9, 10] (by decide +kernel) (by decide +kernel)
set_option maxRecDepth 20000 in
theorem gX7_rowsSeen_X4_size : GoodIn wsX7_rowsSeen (wsV RX7 63 RX4 yX4_size wsX4_size) := goodIn_app (goodIn_of _ (by decide +kernel)) ggX7_rowsSeen_X4_size
theorem dX7_rowsSeen_0 : decode cX7_rowsSeen 0 = .ok (.aload_n 0, 1) := by decide +kernel
theorem dX7_rowsSeen_1 : decode cX7_rowsSeen 1 = .ok (.getfield 14, 3) := by decide +kernel
theorem dX7_rowsSeen_4 : decode cX7_rowsSeen 4 = .ok (.invokevirtual 63, 3) := by decide +kernel
theorem dX7_rowsSeen_7 : decode cX7_rowsSeen 7 = .ok (.ireturn, 1) := by decide +kernel
set_option maxRecDepth 20000 in
theorem ggX7_reachAlong_X8_letterAt : GoodIn wsX7_reachAlong wsX8_letterAt := goodIn_r _ [5, 6, 7, 8, 58, 59, 60] (by decide +kernel) (by decide +kernel)
set_option maxRecDepth 20000 in
theorem gX7_reachAlong_X8_letterAt : GoodIn wsX7_reachAlong (wsV RX7 64 RX8 yX8_letterAt wsX8_letterAt) := goodIn_app (goodIn_of _ (by decide +kernel)) ggX7_reachAlong_X8_letterAt
set_option maxRecDepth 20000 in
theorem ggX7_reachAlong_X1_fillRow : GoodIn wsX7_reachAlong wsX1_fillRow := goodIn_r _ [13, 14, 15, 16, 17, 18, 19, 20, 21, 22, 23, 24, 25, 26, 27, 28, 29, 30, 31, 32, 2, 3, 4, 5, 6, 7, 8, 61, 58, 59, 60, 62] (by decide +kernel) (by decide +kernel)
set_option maxRecDepth 20000 in
theorem gX7_reachAlong_X1_fillRow : GoodIn wsX7_reachAlong (wsV RX7 68 RX1 yX1_fillRow wsX1_fillRow) := goodIn_app (goodIn_of _ (by decide +kernel)) ggX7_reachAlong_X1_fillRow
set_option maxRecDepth 20000 in
theorem ggX7_reachAlong_X7_visit : GoodIn wsX7_reachAlong wsX7_visit := goodIn_r _ [37, 38, 39, 40, 41, 12, 42, 14, 15, 16, 17, 18, 28, 29, 30, 22, 31, 24, 25, 26, 27, 43, 44, 45, 46, 47, 48, 49, 50, 51, 52, 53, 54, 55, 56, 57, 63, 61, 58, 59, 60, 62, 64, 65] (by decide +kernel) (by decide +kernel)
set_option maxRecDepth 20000 in
theorem gX7_reachAlong_X7_visit : GoodIn wsX7_reachAlong (wsV RX7 55 RX7 yX7_visit wsX7_visit) := goodIn_app (goodIn_of _ (by decide +kernel)) ggX7_reachAlong_X7_visit
theorem dX7_reachAlong_0 : decode cX7_reachAlong 0 = .ok (.iconst 0, 1) := by decide +kernel
theorem dX7_reachAlong_1 : decode cX7_reachAlong 1 = .ok (.istore 6, 2) := by decide +kernel
theorem dX7_reachAlong_3 : decode cX7_reachAlong 3 = .ok (.iload_n 3, 1) := by decide +kernel
theorem dX7_reachAlong_4 : decode cX7_reachAlong 4 = .ok (.iconst 1, 1) := by decide +kernel
theorem dX7_reachAlong_5 : decode cX7_reachAlong 5 = .ok (.iadd, 1) := by decide +kernel
theorem dX7_reachAlong_6 : decode cX7_reachAlong 6 = .ok (.istore 7, 2) := by decide +kernel
theorem dX7_reachAlong_8 : decode cX7_reachAlong 8 = .ok (.iload 7, 2) := by decide +kernel
theorem dX7_reachAlong_10 : decode cX7_reachAlong 10 = .ok (.aload_n 2, 1) := by decide +kernel
theorem dX7_reachAlong_11 : decode cX7_reachAlong 11 = .ok (.getfield 36, 3) := by decide +kernel
theorem dX7_reachAlong_14 : decode cX7_reachAlong 14 = .ok (.if_icmp .gt 41, 3) := by decide +kernel
theorem dX7_reachAlong_17 : decode cX7_reachAlong 17 = .ok (.aload_n 1, 1) := by decide +kernel
theorem dX7_reachAlong_18 : decode cX7_reachAlong 18 = .ok (.iload 7, 2) := by decide +kernel
theorem dX7_reachAlong_20 : decode cX7_reachAlong 20 = .ok (.aload_n 2, 1) := by decide +kernel
theorem dX7_reachAlong_21 : decode cX7_reachAlong 21 = .ok (.iload 7, 2) := by decide +kernel
theorem dX7_reachAlong_23 : decode cX7_reachAlong 23 = .ok (.iconst 1, 1) := by decide +kernel
theorem dX7_reachAlong_24 : decode cX7_reachAlong 24 = .ok (.isub, 1) := by decide +kernel
theorem dX7_reachAlong_25 : decode cX7_reachAlong 25 = .ok (.invokevirtual 64, 3) := by decide +kernel
theorem dX7_reachAlong_28 : decode cX7_reachAlong 28 = .ok (.aload 4, 2) := by decide +kernel
theorem dX7_reachAlong_30 : decode cX7_reachAlong 30 = .ok (.invokevirtual 68, 3) := by decide +kernel
theorem dX7_reachAlong_33 : decode cX7_reachAlong 33 = .ok (.iload 6, 2) := by decide +kernel
theorem dX7_reachAlong_35 : decode cX7_reachAlong 35 = .ok (.aload_n 0, 1) := by decide +kernel
theorem dX7_reachAlong_36 : decode cX7_reachAlong 36 = .ok (.aload_n 1, 1) := by decide +kernel
theorem dX7_reachAlong_37 : decode cX7_reachAlong 37 = .ok (.iload 7, 2) := by decide +kernel
theorem dX7_reachAlong_39 : decode cX7_reachAlong 39 = .ok (.aload 4, 2) := by decide +kernel
theorem dX7_reachAlong_41 : decode cX7_reachAlong 41 = .ok (.iload 5, 2) := by decide +kernel
theorem dX7_reachAlong_43 : decode cX7_reachAlong 43 = .ok (.invokevirtual 55, 3) := by decide +kernel
theorem dX7_reachAlong_46 : decode cX7_reachAlong 46 = .ok (.iadd, 1) := by decide +kernel
theorem dX7_reachAlong_47 : decode cX7_reachAlong 47 = .ok (.istore 6, 2) := by decide +kernel
theorem dX7_reachAlong_49 : decode cX7_reachAlong 49 = .ok (.iinc 7 1, 3) := by decide +kernel
theorem dX7_reachAlong_52 : decode cX7_reachAlong 52 = .ok (.goto (-44), 3) := by decide +kernel
theorem dX7_reachAlong_55 : decode cX7_reachAlong 55 = .ok (.iload 6, 2) := by decide +kernel
theorem dX7_reachAlong_57 : decode cX7_reachAlong 57 = .ok (.ireturn, 1) := by decide +kernel
set_option maxRecDepth 20000 in
theorem ggX7_visit_X1_leastInRow : GoodIn wsX7_visit wsX1_leastInRow := goodIn_r _ [6, 7, 8, 9, 10, 11, 12, 13, 14, 15, 16, 17, 18, 19, 20, 37, 38, 39, 40, 41] (by decide +kernel) (by decide +kernel)
set_option maxRecDepth 20000 in
theorem gX7_visit_X1_leastInRow : GoodIn wsX7_visit (wsV RX7 72 RX1 yX1_leastInRow wsX1_leastInRow) := goodIn_app (goodIn_of _ (by decide +kernel)) ggX7_visit_X1_leastInRow
set_option maxRecDepth 20000 in
theorem ggX7_visit_X1_packedRow : GoodIn wsX7_visit wsX1_packedRow := goodIn_r _ [24, 7, 8, 9, 10, 11, 12, 13, 14, 15, 16, 17, 18, 19, 20, 38, 39, 40, 37, 41] (by decide +kernel) (by decide +kernel)
set_option maxRecDepth 20000 in
theorem gX7_visit_X1_packedRow : GoodIn wsX7_visit (wsV RX7 76 RX1 yX1_packedRow wsX1_packedRow) := goodIn_app (goodIn_of _ (by decide +kernel)) ggX7_visit_X1_packedRow
set_option maxRecDepth 20000 in
theorem ggX7_visit_X4_put : GoodIn wsX7_visit wsX4_put := goodIn_r _ [29, 30, 31, 32, 33, 34, 28, 35, 42, 43] (by decide +kernel) (by decide +kernel)
set_option maxRecDepth 20000 in
theorem gX7_visit_X4_put : GoodIn wsX7_visit (wsV RX7 80 RX4 yX4_put wsX4_put) := goodIn_app (goodIn_of _ (by decide +kernel)) ggX7_visit_X4_put
theorem dX7_visit_0 : decode cX7_visit 0 = .ok (.aload_n 1, 1) := by decide +kernel
theorem dX7_visit_1 : decode cX7_visit 1 = .ok (.iload_n 2, 1) := by decide +kernel
theorem dX7_visit_2 : decode cX7_visit 2 = .ok (.aload_n 3, 1) := by decide +kernel
theorem dX7_visit_3 : decode cX7_visit 3 = .ok (.invokevirtual 72, 3) := by decide +kernel
theorem dX7_visit_6 : decode cX7_visit 6 = .ok (.iload 4, 2) := by decide +kernel
theorem dX7_visit_8 : decode cX7_visit 8 = .ok (.if_icmp .le 5, 3) := by decide +kernel
theorem dX7_visit_11 : decode cX7_visit 11 = .ok (.iconst 0, 1) := by decide +kernel
theorem dX7_visit_12 : decode cX7_visit 12 = .ok (.ireturn, 1) := by decide +kernel
theorem dX7_visit_13 : decode cX7_visit 13 = .ok (.aload_n 0, 1) := by decide +kernel
theorem dX7_visit_14 : decode cX7_visit 14 = .ok (.getfield 14, 3) := by decide +kernel
theorem dX7_visit_17 : decode cX7_visit 17 = .ok (.aload_n 1, 1) := by decide +kernel
theorem dX7_visit_18 : decode cX7_visit 18 = .ok (.iload_n 2, 1) := by decide +kernel
theorem dX7_visit_19 : decode cX7_visit 19 = .ok (.aload_n 3, 1) := by decide +kernel
theorem dX7_visit_20 : decode cX7_visit 20 = .ok (.iload 4, 2) := by decide +kernel
theorem dX7_visit_22 : decode cX7_visit 22 = .ok (.iconst 1, 1) := by decide +kernel
theorem dX7_visit_23 : decode cX7_visit 23 = .ok (.iadd, 1) := by decide +kernel
theorem dX7_visit_24 : decode cX7_visit 24 = .ok (.invokevirtual 76, 3) := by decide +kernel
theorem dX7_visit_27 : decode cX7_visit 27 = .ok (.invokevirtual 80, 3) := by decide +kernel
theorem dX7_visit_30 : decode cX7_visit 30 = .ok (.iconst 1, 1) := by decide +kernel
theorem dX7_visit_31 : decode cX7_visit 31 = .ok (.ireturn, 1) := by decide +kernel
set_option maxRecDepth 20000 in
theorem ggX7_lettersPassed_X5_at : GoodIn wsX7_lettersPassed wsX5_at := goodIn_r _ [5, 6, 7, 28, 29] (by decide +kernel) (by decide +kernel)
set_option maxRecDepth 20000 in
theorem gX7_lettersPassed_X5_at : GoodIn wsX7_lettersPassed (wsV RX7 26 RX5 yX5_at wsX5_at) := goodIn_app (goodIn_of _ (by decide +kernel)) ggX7_lettersPassed_X5_at
set_option maxRecDepth 20000 in
theorem ggX7_lettersPassed_X8_beginningSharedWith : GoodIn wsX7_lettersPassed wsX8_beginningSharedWith := goodIn_r _ [12, 13, 14, 15, 16, 11, 17, 18, 19, 30, 31, 32] (by decide +kernel) (by decide +kernel)
set_option maxRecDepth 20000 in
theorem gX7_lettersPassed_X8_beginningSharedWith : GoodIn wsX7_lettersPassed (wsV RX7 84 RX8 yX8_beginningSharedWith wsX8_beginningSharedWith) := goodIn_app (goodIn_of _ (by decide +kernel)) ggX7_lettersPassed_X8_beginningSharedWith
theorem dX7_lettersPassed_0 : decode cX7_lettersPassed 0 = .ok (.aload_n 0, 1) := by decide +kernel
theorem dX7_lettersPassed_1 : decode cX7_lettersPassed 1 = .ok (.iload_n 1, 1) := by decide +kernel
theorem dX7_lettersPassed_2 : decode cX7_lettersPassed 2 = .ok (.iconst 1, 1) := by decide +kernel
theorem dX7_lettersPassed_3 : decode cX7_lettersPassed 3 = .ok (.isub, 1) := by decide +kernel
theorem dX7_lettersPassed_4 : decode cX7_lettersPassed 4 = .ok (.invokevirtual 26, 3) := by decide +kernel
theorem dX7_lettersPassed_7 : decode cX7_lettersPassed 7 = .ok (.astore_n 2, 1) := by decide +kernel
theorem dX7_lettersPassed_8 : decode cX7_lettersPassed 8 = .ok (.aload_n 0, 1) := by decide +kernel
theorem dX7_lettersPassed_9 : decode cX7_lettersPassed 9 = .ok (.iload_n 1, 1) := by decide +kernel
theorem dX7_lettersPassed_10 : decode cX7_lettersPassed 10 = .ok (.invokevirtual 26, 3) := by decide +kernel
theorem dX7_lettersPassed_13 : decode cX7_lettersPassed 13 = .ok (.astore_n 3, 1) := by decide +kernel
theorem dX7_lettersPassed_14 : decode cX7_lettersPassed 14 = .ok (.aload_n 2, 1) := by decide +kernel
theorem dX7_lettersPassed_15 : decode cX7_lettersPassed 15 = .ok (.ifnull 7, 3) := by decide +kernel
theorem dX7_lettersPassed_18 : decode cX7_lettersPassed 18 = .ok (.aload_n 3, 1) := by decide +kernel
theorem dX7_lettersPassed_19 : decode cX7_lettersPassed 19 = .ok (.ifnonnull 5, 3) := by decide +kernel
theorem dX7_lettersPassed_22 : decode cX7_lettersPassed 22 = .ok (.iconst 0, 1) := by decide +kernel
theorem dX7_lettersPassed_23 : decode cX7_lettersPassed 23 = .ok (.ireturn, 1) := by decide +kernel
theorem dX7_lettersPassed_24 : decode cX7_lettersPassed 24 = .ok (.aload_n 3, 1) := by decide +kernel
theorem dX7_lettersPassed_25 : decode cX7_lettersPassed 25 = .ok (.getfield 30, 3) := by decide +kernel
theorem dX7_lettersPassed_28 : decode cX7_lettersPassed 28 = .ok (.aload_n 2, 1) := by decide +kernel
theorem dX7_lettersPassed_29 : decode cX7_lettersPassed 29 = .ok (.getfield 30, 3) := by decide +kernel
theorem dX7_lettersPassed_32 : decode cX7_lettersPassed 32 = .ok (.invokevirtual 84, 3) := by decide +kernel
theorem dX7_lettersPassed_35 : decode cX7_lettersPassed 35 = .ok (.ireturn, 1) := by decide +kernel
set_option maxRecDepth 20000 in
theorem ggX8_init_X8_lengthOf : GoodIn wsX8_init wsX8_lengthOf := goodIn_r _ [10] (by decide +kernel) (by decide +kernel)
set_option maxRecDepth 20000 in
theorem gX8_init_X8_lengthOf : GoodIn wsX8_init (va_wsS RX8 15 yX8_lengthOf wsX8_lengthOf) := goodIn_app (goodIn_of _ (by decide +kernel)) ggX8_init_X8_lengthOf
theorem dX8_init_0 : decode cX8_init 0 = .ok (.aload_n 0, 1) := by decide +kernel
theorem dX8_init_1 : decode cX8_init 1 = .ok (.invokespecial 3, 3) := by decide +kernel
theorem dX8_init_4 : decode cX8_init 4 = .ok (.aload_n 0, 1) := by decide +kernel
theorem dX8_init_5 : decode cX8_init 5 = .ok (.lload_n 1, 1) := by decide +kernel
theorem dX8_init_6 : decode cX8_init 6 = .ok (.putfield 9, 3) := by decide +kernel
theorem dX8_init_9 : decode cX8_init 9 = .ok (.aload_n 0, 1) := by decide +kernel
theorem dX8_init_10 : decode cX8_init 10 = .ok (.lload_n 1, 1) := by decide +kernel
theorem dX8_init_11 : decode cX8_init 11 = .ok (.invokestatic 15, 3) := by decide +kernel
theorem dX8_init_14 : decode cX8_init 14 = .ok (.putfield 19, 3) := by decide +kernel
theorem dX8_init_17 : decode cX8_init 17 = .ok (.aload_n 0, 1) := by decide +kernel
theorem dX8_init_18 : decode cX8_init 18 = .ok (.lload_n 1, 1) := by decide +kernel
theorem dX8_init_19 : decode cX8_init 19 = .ok (.iconst 5, 1) := by decide +kernel
theorem dX8_init_20 : decode cX8_init 20 = .ok (.bipush 10, 2) := by decide +kernel
theorem dX8_init_22 : decode cX8_init 22 = .ok (.aload_n 0, 1) := by decide +kernel
theorem dX8_init_23 : decode cX8_init 23 = .ok (.getfield 19, 3) := by decide +kernel
theorem dX8_init_26 : decode cX8_init 26 = .ok (.isub, 1) := by decide +kernel
theorem dX8_init_27 : decode cX8_init 27 = .ok (.imul, 1) := by decide +kernel
theorem dX8_init_28 : decode cX8_init 28 = .ok (.lshl, 1) := by decide +kernel
theorem dX8_init_29 : decode cX8_init 29 = .ok (.putfield 23, 3) := by decide +kernel
theorem dX8_init_32 : decode cX8_init 32 = .ok (.return_, 1) := by decide +kernel
theorem dX8_isSpelledBy_0 : decode cX8_isSpelledBy 0 = .ok (.lload_n 0, 1) := by decide +kernel
theorem dX8_isSpelledBy_1 : decode cX8_isSpelledBy 1 = .ok (.lstore_n 2, 1) := by decide +kernel
theorem dX8_isSpelledBy_2 : decode cX8_isSpelledBy 2 = .ok (.iconst 0, 1) := by decide +kernel
theorem dX8_isSpelledBy_3 : decode cX8_isSpelledBy 3 = .ok (.istore 4, 2) := by decide +kernel
theorem dX8_isSpelledBy_5 : decode cX8_isSpelledBy 5 = .ok (.iload 4, 2) := by decide +kernel
theorem dX8_isSpelledBy_7 : decode cX8_isSpelledBy 7 = .ok (.bipush 10, 2) := by decide +kernel
theorem dX8_isSpelledBy_9 : decode cX8_isSpelledBy 9 = .ok (.if_icmp .ge 44, 3) := by decide +kernel
theorem dX8_isSpelledBy_12 : decode cX8_isSpelledBy 12 = .ok (.lload_n 2, 1) := by decide +kernel
theorem dX8_isSpelledBy_13 : decode cX8_isSpelledBy 13 = .ok (.lconst 0, 1) := by decide +kernel
theorem dX8_isSpelledBy_14 : decode cX8_isSpelledBy 14 = .ok (.lcmp, 1) := by decide +kernel
theorem dX8_isSpelledBy_15 : decode cX8_isSpelledBy 15 = .ok (.ifCond .le 38, 3) := by decide +kernel
theorem dX8_isSpelledBy_18 : decode cX8_isSpelledBy 18 = .ok (.lload_n 2, 1) := by decide +kernel
theorem dX8_isSpelledBy_19 : decode cX8_isSpelledBy 19 = .ok (.ldc2_w 26, 3) := by decide +kernel
theorem dX8_isSpelledBy_22 : decode cX8_isSpelledBy 22 = .ok (.land, 1) := by decide +kernel
theorem dX8_isSpelledBy_23 : decode cX8_isSpelledBy 23 = .ok (.lstore 5, 2) := by decide +kernel
theorem dX8_isSpelledBy_25 : decode cX8_isSpelledBy 25 = .ok (.lload 5, 2) := by decide +kernel
theorem dX8_isSpelledBy_27 : decode cX8_isSpelledBy 27 = .ok (.lconst 1, 1) := by decide +kernel
theorem dX8_isSpelledBy_28 : decode cX8_isSpelledBy 28 = .ok (.lcmp, 1) := by decide +kernel
theorem dX8_isSpelledBy_29 : decode cX8_isSpelledBy 29 = .ok (.ifCond .lt 12, 3) := by decide +kernel
theorem dX8_isSpelledBy_32 : decode cX8_isSpelledBy 32 = .ok (.lload 5, 2) := by decide +kernel
theorem dX8_isSpelledBy_34 : decode cX8_isSpelledBy 34 = .ok (.ldc2_w 28, 3) := by decide +kernel
theorem dX8_isSpelledBy_37 : decode cX8_isSpelledBy 37 = .ok (.lcmp, 1) := by decide +kernel
theorem dX8_isSpelledBy_38 : decode cX8_isSpelledBy 38 = .ok (.ifCond .le 5, 3) := by decide +kernel
theorem dX8_isSpelledBy_41 : decode cX8_isSpelledBy 41 = .ok (.iconst 0, 1) := by decide +kernel
theorem dX8_isSpelledBy_42 : decode cX8_isSpelledBy 42 = .ok (.ireturn, 1) := by decide +kernel
theorem dX8_isSpelledBy_43 : decode cX8_isSpelledBy 43 = .ok (.lload_n 2, 1) := by decide +kernel
theorem dX8_isSpelledBy_44 : decode cX8_isSpelledBy 44 = .ok (.iconst 5, 1) := by decide +kernel
theorem dX8_isSpelledBy_45 : decode cX8_isSpelledBy 45 = .ok (.lushr, 1) := by decide +kernel
theorem dX8_isSpelledBy_46 : decode cX8_isSpelledBy 46 = .ok (.lstore_n 2, 1) := by decide +kernel
theorem dX8_isSpelledBy_47 : decode cX8_isSpelledBy 47 = .ok (.iinc 4 1, 3) := by decide +kernel
theorem dX8_isSpelledBy_50 : decode cX8_isSpelledBy 50 = .ok (.goto (-45), 3) := by decide +kernel
theorem dX8_isSpelledBy_53 : decode cX8_isSpelledBy 53 = .ok (.lload_n 0, 1) := by decide +kernel
theorem dX8_isSpelledBy_54 : decode cX8_isSpelledBy 54 = .ok (.lconst 0, 1) := by decide +kernel
theorem dX8_isSpelledBy_55 : decode cX8_isSpelledBy 55 = .ok (.lcmp, 1) := by decide +kernel
theorem dX8_isSpelledBy_56 : decode cX8_isSpelledBy 56 = .ok (.ifCond .le 13, 3) := by decide +kernel
theorem dX8_isSpelledBy_59 : decode cX8_isSpelledBy 59 = .ok (.lload_n 2, 1) := by decide +kernel
theorem dX8_isSpelledBy_60 : decode cX8_isSpelledBy 60 = .ok (.lconst 0, 1) := by decide +kernel
theorem dX8_isSpelledBy_61 : decode cX8_isSpelledBy 61 = .ok (.lcmp, 1) := by decide +kernel
theorem dX8_isSpelledBy_62 : decode cX8_isSpelledBy 62 = .ok (.ifCond .ne 7, 3) := by decide +kernel
theorem dX8_isSpelledBy_65 : decode cX8_isSpelledBy 65 = .ok (.iconst 1, 1) := by decide +kernel
theorem dX8_isSpelledBy_66 : decode cX8_isSpelledBy 66 = .ok (.goto 4, 3) := by decide +kernel
theorem dX8_isSpelledBy_69 : decode cX8_isSpelledBy 69 = .ok (.iconst 0, 1) := by decide +kernel
theorem dX8_isSpelledBy_70 : decode cX8_isSpelledBy 70 = .ok (.ireturn, 1) := by decide +kernel
theorem dX8_without_0 : decode cX8_without 0 = .ok (.iconst 5, 1) := by decide +kernel
theorem dX8_without_1 : decode cX8_without 1 = .ok (.iload_n 2, 1) := by decide +kernel
theorem dX8_without_2 : decode cX8_without 2 = .ok (.imul, 1) := by decide +kernel
theorem dX8_without_3 : decode cX8_without 3 = .ok (.istore_n 3, 1) := by decide +kernel
theorem dX8_without_4 : decode cX8_without 4 = .ok (.lload_n 0, 1) := by decide +kernel
theorem dX8_without_5 : decode cX8_without 5 = .ok (.iload_n 3, 1) := by decide +kernel
theorem dX8_without_6 : decode cX8_without 6 = .ok (.iconst 5, 1) := by decide +kernel
theorem dX8_without_7 : decode cX8_without 7 = .ok (.iadd, 1) := by decide +kernel
theorem dX8_without_8 : decode cX8_without 8 = .ok (.lushr, 1) := by decide +kernel
theorem dX8_without_9 : decode cX8_without 9 = .ok (.lstore 4, 2) := by decide +kernel
theorem dX8_without_11 : decode cX8_without 11 = .ok (.lload_n 0, 1) := by decide +kernel
theorem dX8_without_12 : decode cX8_without 12 = .ok (.lconst 1, 1) := by decide +kernel
theorem dX8_without_13 : decode cX8_without 13 = .ok (.iload_n 3, 1) := by decide +kernel
theorem dX8_without_14 : decode cX8_without 14 = .ok (.lshl, 1) := by decide +kernel
theorem dX8_without_15 : decode cX8_without 15 = .ok (.lconst 1, 1) := by decide +kernel
theorem dX8_without_16 : decode cX8_without 16 = .ok (.lsub, 1) := by decide +kernel
theorem dX8_without_17 : decode cX8_without 17 = .ok (.land, 1) := by decide +kernel
theorem dX8_without_18 : decode cX8_without 18 = .ok (.lstore 6, 2) := by decide +kernel
theorem dX8_without_20 : decode cX8_without 20 = .ok (.lload 4, 2) := by decide +kernel
theorem dX8_without_22 : decode cX8_without 22 = .ok (.iload_n 3, 1) := by decide +kernel
theorem dX8_without_23 : decode cX8_without 23 = .ok (.lshl, 1) := by decide +kernel
theorem dX8_without_24 : decode cX8_without 24 = .ok (.lload 6, 2) := by decide +kernel
theorem dX8_without_26 : decode cX8_without 26 = .ok (.lor, 1) := by decide +kernel
theorem dX8_without_27 : decode cX8_without 27 = .ok (.lreturn, 1) := by decide +kernel
theorem dX8_letterAt_0 : decode cX8_letterAt 0 = .ok (.iload_n 1, 1) := by decide +kernel
theorem dX8_letterAt_1 : decode cX8_letterAt 1 = .ok (.ifCond .lt 11, 3) := by decide +kernel
theorem dX8_letterAt_4 : decode cX8_letterAt 4 = .ok (.iload_n 1, 1) := by decide +kernel
theorem dX8_letterAt_5 : decode cX8_letterAt 5 = .ok (.aload_n 0, 1) := by decide +kernel
theorem dX8_letterAt_6 : decode cX8_letterAt 6 = .ok (.getfield 19, 3) := by decide +kernel
theorem dX8_letterAt_9 : decode cX8_letterAt 9 = .ok (.if_icmp .lt 5, 3) := by decide +kernel
theorem dX8_letterAt_12 : decode cX8_letterAt 12 = .ok (.iconst 0, 1) := by decide +kernel
theorem dX8_letterAt_13 : decode cX8_letterAt 13 = .ok (.ireturn, 1) := by decide +kernel
theorem dX8_letterAt_14 : decode cX8_letterAt 14 = .ok (.iconst 5, 1) := by decide +kernel
theorem dX8_letterAt_15 : decode cX8_letterAt 15 = .ok (.aload_n 0, 1) := by decide +kernel
theorem dX8_letterAt_16 : decode cX8_letterAt 16 = .ok (.getfield 19, 3) := by decide +kernel
theorem dX8_letterAt_19 : decode cX8_letterAt 19 = .ok (.iconst 1, 1) := by decide +kernel
theorem dX8_letterAt_20 : decode cX8_letterAt 20 = .ok (.isub, 1) := by decide +kernel
theorem dX8_letterAt_21 : decode cX8_letterAt 21 = .ok (.iload_n 1, 1) := by decide +kernel
theorem dX8_letterAt_22 : decode cX8_letterAt 22 = .ok (.isub, 1) := by decide +kernel
theorem dX8_letterAt_23 : decode cX8_letterAt 23 = .ok (.imul, 1) := by decide +kernel
theorem dX8_letterAt_24 : decode cX8_letterAt 24 = .ok (.istore_n 2, 1) := by decide +kernel
theorem dX8_letterAt_25 : decode cX8_letterAt 25 = .ok (.aload_n 0, 1) := by decide +kernel
theorem dX8_letterAt_26 : decode cX8_letterAt 26 = .ok (.getfield 9, 3) := by decide +kernel
theorem dX8_letterAt_29 : decode cX8_letterAt 29 = .ok (.iload_n 2, 1) := by decide +kernel
theorem dX8_letterAt_30 : decode cX8_letterAt 30 = .ok (.lushr, 1) := by decide +kernel
theorem dX8_letterAt_31 : decode cX8_letterAt 31 = .ok (.ldc2_w 26, 3) := by decide +kernel
theorem dX8_letterAt_34 : decode cX8_letterAt 34 = .ok (.land, 1) := by decide +kernel
theorem dX8_letterAt_35 : decode cX8_letterAt 35 = .ok (.l2i, 1) := by decide +kernel
theorem dX8_letterAt_36 : decode cX8_letterAt 36 = .ok (.ireturn, 1) := by decide +kernel
set_option maxRecDepth 20000 in
theorem ggX8_beginningSharedWith_X8_letterAt : GoodIn wsX8_beginningSharedWith wsX8_letterAt := goodIn_r _ [6, 1, 7, 8, 9, 10, 11] (by decide +kernel) (by decide +kernel)
set_option maxRecDepth 20000 in
theorem gX8_beginningSharedWith_X8_letterAt : GoodIn wsX8_beginningSharedWith (wsV RX8 30 RX8 yX8_letterAt wsX8_letterAt) := goodIn_app (goodIn_of _ (by decide +kernel)) ggX8_beginningSharedWith_X8_letterAt
theorem dX8_beginningSharedWith_0 : decode cX8_beginningSharedWith 0 = .ok (.iconst 0, 1) := by decide +kernel
theorem dX8_beginningSharedWith_1 : decode cX8_beginningSharedWith 1 = .ok (.istore_n 2, 1) := by decide +kernel
theorem dX8_beginningSharedWith_2 : decode cX8_beginningSharedWith 2 = .ok (.iload_n 2, 1) := by decide +kernel
theorem dX8_beginningSharedWith_3 : decode cX8_beginningSharedWith 3 = .ok (.aload_n 0, 1) := by decide +kernel
theorem dX8_beginningSharedWith_4 : decode cX8_beginningSharedWith 4 = .ok (.getfield 19, 3) := by decide +kernel
theorem dX8_beginningSharedWith_7 : decode cX8_beginningSharedWith 7 = .ok (.if_icmp .ge 22, 3) := by decide +kernel
theorem dX8_beginningSharedWith_10 : decode cX8_beginningSharedWith 10 = .ok (.aload_n 0, 1) := by decide +kernel
theorem dX8_beginningSharedWith_11 : decode cX8_beginningSharedWith 11 = .ok (.iload_n 2, 1) := by decide +kernel
theorem dX8_beginningSharedWith_12 : decode cX8_beginningSharedWith 12 = .ok (.invokevirtual 30, 3) := by decide +kernel
theorem dX8_beginningSharedWith_15 : decode cX8_beginningSharedWith 15 = .ok (.aload_n 1, 1) := by decide +kernel
theorem dX8_beginningSharedWith_16 : decode cX8_beginningSharedWith 16 = .ok (.iload_n 2, 1) := by decide +kernel
theorem dX8_beginningSharedWith_17 : decode cX8_beginningSharedWith 17 = .ok (.invokevirtual 30, 3) := by decide +kernel
theorem dX8_beginningSharedWith_20 : decode cX8_beginningSharedWith 20 = .ok (.if_icmp .ne 9, 3) := by decide +kernel
theorem dX8_beginningSharedWith_23 : decode cX8_beginningSharedWith 23 = .ok (.iinc 2 1, 3) := by decide +kernel
theorem dX8_beginningSharedWith_26 : decode cX8_beginningSharedWith 26 = .ok (.goto (-24), 3) := by decide +kernel
theorem dX8_beginningSharedWith_29 : decode cX8_beginningSharedWith 29 = .ok (.iload_n 2, 1) := by decide +kernel
theorem dX8_beginningSharedWith_30 : decode cX8_beginningSharedWith 30 = .ok (.ireturn, 1) := by decide +kernel
theorem dX8_lengthOf_0 : decode cX8_lengthOf 0 = .ok (.iconst 0, 1) := by decide +kernel
theorem dX8_lengthOf_1 : decode cX8_lengthOf 1 = .ok (.istore_n 2, 1) := by decide +kernel
theorem dX8_lengthOf_2 : decode cX8_lengthOf 2 = .ok (.lload_n 0, 1) := by decide +kernel
theorem dX8_lengthOf_3 : decode cX8_lengthOf 3 = .ok (.lstore_n 3, 1) := by decide +kernel
theorem dX8_lengthOf_4 : decode cX8_lengthOf 4 = .ok (.iload_n 2, 1) := by decide +kernel
theorem dX8_lengthOf_5 : decode cX8_lengthOf 5 = .ok (.bipush 10, 2) := by decide +kernel
theorem dX8_lengthOf_7 : decode cX8_lengthOf 7 = .ok (.if_icmp .ge 19, 3) := by decide +kernel
theorem dX8_lengthOf_10 : decode cX8_lengthOf 10 = .ok (.lload_n 3, 1) := by decide +kernel
theorem dX8_lengthOf_11 : decode cX8_lengthOf 11 = .ok (.lconst 0, 1) := by decide +kernel
theorem dX8_lengthOf_12 : decode cX8_lengthOf 12 = .ok (.lcmp, 1) := by decide +kernel
theorem dX8_lengthOf_13 : decode cX8_lengthOf 13 = .ok (.ifCond .le 13, 3) := by decide +kernel
theorem dX8_lengthOf_16 : decode cX8_lengthOf 16 = .ok (.iinc 2 1, 3) := by decide +kernel
theorem dX8_lengthOf_19 : decode cX8_lengthOf 19 = .ok (.lload_n 3, 1) := by decide +kernel
theorem dX8_lengthOf_20 : decode cX8_lengthOf 20 = .ok (.iconst 5, 1) := by decide +kernel
theorem dX8_lengthOf_21 : decode cX8_lengthOf 21 = .ok (.lushr, 1) := by decide +kernel
theorem dX8_lengthOf_22 : decode cX8_lengthOf 22 = .ok (.lstore_n 3, 1) := by decide +kernel
theorem dX8_lengthOf_23 : decode cX8_lengthOf 23 = .ok (.goto (-19), 3) := by decide +kernel
theorem dX8_lengthOf_26 : decode cX8_lengthOf 26 = .ok (.iload_n 2, 1) := by decide +kernel
theorem dX8_lengthOf_27 : decode cX8_lengthOf 27 = .ok (.ireturn, 1) := by decide +kernel
set_option maxRecDepth 20000 in
theorem ggX9_init_X1_init : GoodIn wsX9_init wsX1_init := goodIn_r _ [26, 27, 2, 3, 28, 29, 30, 31, 32, 33, 34, 35, 36, 72, 59] (by decide +kernel) (by decide +kernel)
set_option maxRecDepth 20000 in
theorem gX9_init_X1_init_n11 : GoodIn wsX9_init (wsX1_init) := ggX9_init_X1_init
set_option maxRecDepth 20000 in
theorem ggX9_init_X6_init : GoodIn wsX9_init wsX6_init := goodIn_r _ [38, 39, 2, 3, 40, 17, 18, 41, 42, 43, 44, 45, 46, 68, 69, 66] (by decide +kernel) (by decide +kernel)
set_option maxRecDepth 20000 in
theorem gX9_init_X6_init_n18 : GoodIn wsX9_init (wsX6_init) := ggX9_init_X6_init
set_option maxRecDepth 20000 in
theorem ggX9_init_X7_init : GoodIn wsX9_init wsX7_init := goodIn_r _ [48, 49, 2, 3, 50, 22, 23, 51, 52, 53, 54, 55, 56, 57, 70, 71, 67] (by decide +kernel) (by decide +kernel)
set_option maxRecDepth 20000 in
theorem gX9_init_X7_init_n25 : GoodIn wsX9_init (wsX7_init) := ggX9_init_X7_init
set_option maxRecDepth 20000 in
theorem ggX9_init_X5_init : GoodIn wsX9_init wsX5_init := goodIn_r _ [43, 44, 2, 3, 45, 46, 68, 69] (by decide +kernel) (by decide +kernel)
set_option maxRecDepth 20000 in
theorem gX9_init_X5_init_n32 : GoodIn wsX9_init (wsX5_init) := ggX9_init_X5_init
set_option maxRecDepth 20000 in
theorem ggX9_init_X4_init : GoodIn wsX9_init wsX4_init := goodIn_r _ [54, 55, 2, 3, 56, 57, 70, 71] (by decide +kernel) (by decide +kernel)
set_option maxRecDepth 20000 in
theorem gX9_init_X4_init : GoodIn wsX9_init (wsX4_init) := ggX9_init_X4_init
theorem dX9_init_0 : decode cX9_init 0 = .ok (.aload_n 0, 1) := by decide +kernel
theorem dX9_init_1 : decode cX9_init 1 = .ok (.invokespecial 3, 3) := by decide +kernel
theorem dX9_init_4 : decode cX9_init 4 = .ok (.aload_n 0, 1) := by decide +kernel
theorem dX9_init_5 : decode cX9_init 5 = .ok (.new 9, 3) := by decide +kernel
theorem dX9_init_8 : decode cX9_init 8 = .ok (.dup, 1) := by decide +kernel
theorem dX9_init_9 : decode cX9_init 9 = .ok (.invokespecial 11, 3) := by decide +kernel
theorem dX9_init_12 : decode cX9_init 12 = .ok (.putfield 12, 3) := by decide +kernel
theorem dX9_init_15 : decode cX9_init 15 = .ok (.aload_n 0, 1) := by decide +kernel
theorem dX9_init_16 : decode cX9_init 16 = .ok (.new 16, 3) := by decide +kernel
theorem dX9_init_19 : decode cX9_init 19 = .ok (.dup, 1) := by decide +kernel
theorem dX9_init_20 : decode cX9_init 20 = .ok (.invokespecial 18, 3) := by decide +kernel
theorem dX9_init_23 : decode cX9_init 23 = .ok (.putfield 19, 3) := by decide +kernel
theorem dX9_init_26 : decode cX9_init 26 = .ok (.aload_n 0, 1) := by decide +kernel
theorem dX9_init_27 : decode cX9_init 27 = .ok (.new 23, 3) := by decide +kernel
theorem dX9_init_30 : decode cX9_init 30 = .ok (.dup, 1) := by decide +kernel
theorem dX9_init_31 : decode cX9_init 31 = .ok (.invokespecial 25, 3) := by decide +kernel
theorem dX9_init_34 : decode cX9_init 34 = .ok (.putfield 26, 3) := by decide +kernel
theorem dX9_init_37 : decode cX9_init 37 = .ok (.aload_n 0, 1) := by decide +kernel
theorem dX9_init_38 : decode cX9_init 38 = .ok (.new 30, 3) := by decide +kernel
theorem dX9_init_41 : decode cX9_init 41 = .ok (.dup, 1) := by decide +kernel
theorem dX9_init_42 : decode cX9_init 42 = .ok (.invokespecial 32, 3) := by decide +kernel
theorem dX9_init_45 : decode cX9_init 45 = .ok (.putfield 33, 3) := by decide +kernel
theorem dX9_init_48 : decode cX9_init 48 = .ok (.aload_n 0, 1) := by decide +kernel
theorem dX9_init_49 : decode cX9_init 49 = .ok (.new 30, 3) := by decide +kernel
theorem dX9_init_52 : decode cX9_init 52 = .ok (.dup, 1) := by decide +kernel
theorem dX9_init_53 : decode cX9_init 53 = .ok (.invokespecial 32, 3) := by decide +kernel
theorem dX9_init_56 : decode cX9_init 56 = .ok (.putfield 37, 3) := by decide +kernel
theorem dX9_init_59 : decode cX9_init 59 = .ok (.aload_n 0, 1) := by decide +kernel
theorem dX9_init_60 : decode cX9_init 60 = .ok (.new 40, 3) := by decide +kernel
theorem dX9_init_63 : decode cX9_init 63 = .ok (.dup, 1) := by decide +kernel
theorem dX9_init_64 : decode cX9_init 64 = .ok (.bipush 56, 2) := by decide +kernel
theorem dX9_init_66 : decode cX9_init 66 = .ok (.invokespecial 42, 3) := by decide +kernel
theorem dX9_init_69 : decode cX9_init 69 = .ok (.putfield 45, 3) := by decide +kernel
theorem dX9_init_72 : decode cX9_init 72 = .ok (.return_, 1) := by decide +kernel
set_option maxRecDepth 20000 in
theorem ggX9_add_X9_wordOf : GoodIn wsX9_add wsX9_wordOf := goodIn_ca (goodIn_r _ [10, 11, 12, 13, 14, 15, 16, 17, 18, 19, 20, 21, 22, 23, 24, 25, 26, 27, 28, 29, 30, 31, 32, 142, 143, 144] (by decide +kernel) (by decide +kernel)) (goodIn_sub (fun _ h => List.mem_cons_of_mem _ (List.mem_append_right _ h)) (by decide +kernel))
set_option maxRecDepth 20000 in
theorem gX9_add_X9_wordOf : GoodIn wsX9_add (va_wsS RX9 49 yX9_wordOf wsX9_wordOf) := goodIn_app (goodIn_of _ (by decide +kernel)) ggX9_add_X9_wordOf
set_option maxRecDepth 20000 in
theorem ggX9_add_X9_checkWithin : GoodIn wsX9_add wsX9_checkWithin := goodIn_ca (goodIn_r _ [35, 11, 12] (by decide +kernel) (by decide +kernel)) (goodIn_sub (fun _ h => List.mem_cons_of_mem _ (List.mem_append_right _ h)) (by decide +kernel))
set_option maxRecDepth 20000 in
theorem gX9_add_X9_checkWithin : GoodIn wsX9_add (va_wsS RX9 53 yX9_checkWithin wsX9_checkWithin) := goodIn_app (goodIn_of _ (by decide +kernel)) ggX9_add_X9_checkWithin
set_option maxRecDepth 20000 in
theorem ggX9_add_X6_find : GoodIn wsX9_add wsX6_find := goodIn_r _ [40, 41, 42, 43, 44, 45, 46, 47, 48, 49, 50, 51, 52, 145, 134, 135, 136, 137, 138, 139, 140, 141, 142, 143, 144, 146, 147] (by decide +kernel) (by decide +kernel)
set_option maxRecDepth 20000 in
theorem gX9_add_X6_find : GoodIn wsX9_add (wsV RX9 57 RX6 yX6_find wsX6_find) := goodIn_app (goodIn_of _ (by decide +kernel)) ggX9_add_X6_find
set_option maxRecDepth 20000 in
theorem ggX9_add_X6_isFull : GoodIn wsX9_add wsX6_isFull := goodIn_r _ [56, 41, 42, 43, 44, 45, 46, 47, 145, 146, 147] (by decide +kernel) (by decide +kernel)
set_option maxRecDepth 20000 in
theorem gX9_add_X6_isFull : GoodIn wsX9_add (wsV RX9 61 RX6 yX6_isFull wsX6_isFull) := goodIn_app (goodIn_of _ (by decide +kernel)) ggX9_add_X6_isFull
set_option maxRecDepth 20000 in
theorem ggX9_add_X6_plant : GoodIn wsX9_add wsX6_plant := goodIn_r _ [60, 41, 61, 62, 63, 48, 49, 50, 45, 51, 47, 52, 64, 65, 66, 67, 68, 69, 70, 71, 72, 73, 74, 75, 76, 77, 78, 79, 80, 81, 82, 83, 84, 85, 15, 86, 28, 27, 19, 87, 88, 89, 90, 91, 92, 93, 94, 95, 96, 97, 98, 99, 100, 101, 39, 102, 42, 43, 44, 46, 103, 104, 105, 106, 25, 26, 107, 108, 109, 110, 111, 112, 113, 114, 115, 116, 117, 118, 145, 134, 135, 136, 137, 138, 139, 140, 141, 146, 147, 142, 143, 144, 148, 149] (by decide +kernel) (by decide +kernel)
set_option maxRecDepth 20000 in
theorem gX9_add_X6_plant : GoodIn wsX9_add (wsV RX9 81 RX6 yX6_plant wsX6_plant) := goodIn_app (goodIn_of _ (by decide +kernel)) ggX9_add_X6_plant
set_option maxRecDepth 20000 in
theorem ggX9_add_X5_insertAlphabetically : GoodIn wsX9_add wsX5_insertAlphabetically := goodIn_r _ [122, 47, 123, 49, 50, 45, 51, 52, 124, 125, 126, 63, 127, 107, 115, 116, 117, 118, 146, 147, 134, 135, 136, 137, 138, 139, 140, 141, 142, 143, 144] (by decide +kernel) (by decide +kernel)
set_option maxRecDepth 20000 in
theorem gX9_add_X5_insertAlphabetically : GoodIn wsX9_add (wsV RX9 85 RX5 yX5_insertAlphabetically wsX5_insertAlphabetically) := goodIn_app (goodIn_of _ (by decide +kernel)) ggX9_add_X5_insertAlphabetically
theorem dX9_add_0 : decode cX9_add 0 = .ok (.lload_n 1, 1) := by decide +kernel
theorem dX9_add_1 : decode cX9_add 1 = .ok (.invokestatic 49, 3) := by decide +kernel
theorem dX9_add_4 : decode cX9_add 4 = .ok (.astore 4, 2) := by decide +kernel
theorem dX9_add_6 : decode cX9_add 6 = .ok (.iload_n 3, 1) := by decide +kernel
theorem dX9_add_7 : decode cX9_add 7 = .ok (.iconst 1, 1) := by decide +kernel
theorem dX9_add_8 : decode cX9_add 8 = .ok (.sipush 1000, 3) := by decide +kernel
theorem dX9_add_11 : decode cX9_add 11 = .ok (.invokestatic 53, 3) := by decide +kernel
theorem dX9_add_14 : decode cX9_add 14 = .ok (.aload_n 0, 1) := by decide +kernel
theorem dX9_add_15 : decode cX9_add 15 = .ok (.getfield 19, 3) := by decide +kernel
theorem dX9_add_18 : decode cX9_add 18 = .ok (.aload 4, 2) := by decide +kernel
theorem dX9_add_20 : decode cX9_add 20 = .ok (.invokevirtual 57, 3) := by decide +kernel
theorem dX9_add_23 : decode cX9_add 23 = .ok (.astore 5, 2) := by decide +kernel
theorem dX9_add_25 : decode cX9_add 25 = .ok (.aload 5, 2) := by decide +kernel
theorem dX9_add_27 : decode cX9_add 27 = .ok (.ifnonnull 23, 3) := by decide +kernel
theorem dX9_add_30 : decode cX9_add 30 = .ok (.aload_n 0, 1) := by decide +kernel
theorem dX9_add_31 : decode cX9_add 31 = .ok (.getfield 19, 3) := by decide +kernel
theorem dX9_add_34 : decode cX9_add 34 = .ok (.invokevirtual 61, 3) := by decide +kernel
theorem dX9_add_37 : decode cX9_add 37 = .ok (.ifCond .eq 13, 3) := by decide +kernel
theorem dX9_add_40 : decode cX9_add 40 = .ok (.new 65, 3) := by decide +kernel
theorem dX9_add_43 : decode cX9_add 43 = .ok (.dup, 1) := by decide +kernel
theorem dX9_add_44 : decode cX9_add 44 = .ok (.ldc 67, 2) := by decide +kernel
theorem dX9_add_46 : decode cX9_add 46 = .ok (.invokespecial 69, 3) := by decide +kernel
theorem dX9_add_49 : decode cX9_add 49 = .ok (.athrow, 1) := by decide +kernel
theorem dX9_add_50 : decode cX9_add 50 = .ok (.aload 5, 2) := by decide +kernel
theorem dX9_add_52 : decode cX9_add 52 = .ok (.ifnull 25, 3) := by decide +kernel
theorem dX9_add_55 : decode cX9_add 55 = .ok (.aload 5, 2) := by decide +kernel
theorem dX9_add_57 : decode cX9_add 57 = .ok (.getfield 72, 3) := by decide +kernel
theorem dX9_add_60 : decode cX9_add 60 = .ok (.iload_n 3, 1) := by decide +kernel
theorem dX9_add_61 : decode cX9_add 61 = .ok (.iadd, 1) := by decide +kernel
theorem dX9_add_62 : decode cX9_add 62 = .ok (.ldc 78, 2) := by decide +kernel
theorem dX9_add_64 : decode cX9_add 64 = .ok (.if_icmp .le 13, 3) := by decide +kernel
theorem dX9_add_67 : decode cX9_add 67 = .ok (.new 65, 3) := by decide +kernel
theorem dX9_add_70 : decode cX9_add 70 = .ok (.dup, 1) := by decide +kernel
theorem dX9_add_71 : decode cX9_add 71 = .ok (.ldc 79, 2) := by decide +kernel
theorem dX9_add_73 : decode cX9_add 73 = .ok (.invokespecial 69, 3) := by decide +kernel
theorem dX9_add_76 : decode cX9_add 76 = .ok (.athrow, 1) := by decide +kernel
theorem dX9_add_77 : decode cX9_add 77 = .ok (.aload 5, 2) := by decide +kernel
theorem dX9_add_79 : decode cX9_add 79 = .ok (.ifnonnull 18, 3) := by decide +kernel
theorem dX9_add_82 : decode cX9_add 82 = .ok (.aload_n 0, 1) := by decide +kernel
theorem dX9_add_83 : decode cX9_add 83 = .ok (.getfield 19, 3) := by decide +kernel
theorem dX9_add_86 : decode cX9_add 86 = .ok (.aload_n 0, 1) := by decide +kernel
theorem dX9_add_87 : decode cX9_add 87 = .ok (.getfield 12, 3) := by decide +kernel
theorem dX9_add_90 : decode cX9_add 90 = .ok (.aload 4, 2) := by decide +kernel
theorem dX9_add_92 : decode cX9_add 92 = .ok (.invokevirtual 81, 3) := by decide +kernel
theorem dX9_add_95 : decode cX9_add 95 = .ok (.astore 5, 2) := by decide +kernel
theorem dX9_add_97 : decode cX9_add 97 = .ok (.aload 5, 2) := by decide +kernel
theorem dX9_add_99 : decode cX9_add 99 = .ok (.getfield 72, 3) := by decide +kernel
theorem dX9_add_102 : decode cX9_add 102 = .ok (.ifCond .ne 12, 3) := by decide +kernel
theorem dX9_add_105 : decode cX9_add 105 = .ok (.aload_n 0, 1) := by decide +kernel
theorem dX9_add_106 : decode cX9_add 106 = .ok (.getfield 33, 3) := by decide +kernel
theorem dX9_add_109 : decode cX9_add 109 = .ok (.aload 5, 2) := by decide +kernel
theorem dX9_add_111 : decode cX9_add 111 = .ok (.invokevirtual 85, 3) := by decide +kernel
theorem dX9_add_114 : decode cX9_add 114 = .ok (.aload 5, 2) := by decide +kernel
theorem dX9_add_116 : decode cX9_add 116 = .ok (.dup, 1) := by decide +kernel
theorem dX9_add_117 : decode cX9_add 117 = .ok (.getfield 72, 3) := by decide +kernel
theorem dX9_add_120 : decode cX9_add 120 = .ok (.iload_n 3, 1) := by decide +kernel
theorem dX9_add_121 : decode cX9_add 121 = .ok (.iadd, 1) := by decide +kernel
theorem dX9_add_122 : decode cX9_add 122 = .ok (.putfield 72, 3) := by decide +kernel
theorem dX9_add_125 : decode cX9_add 125 = .ok (.aload 5, 2) := by decide +kernel
theorem dX9_add_127 : decode cX9_add 127 = .ok (.getfield 72, 3) := by decide +kernel
theorem dX9_add_130 : decode cX9_add 130 = .ok (.ireturn, 1) := by decide +kernel
set_option maxRecDepth 20000 in
theorem ggX9_forget_X9_wordOf : GoodIn wsX9_forget wsX9_wordOf := goodIn_ca (goodIn_r _ [8, 9, 10, 11, 12, 13, 14, 15, 16, 17, 18, 19, 20, 21, 22, 23, 24, 25, 26, 27, 28, 29, 30, 66, 67, 68] (by decide +kernel) (by decide +kernel)) (goodIn_sub (fun _ h => List.mem_cons_of_mem _ (List.mem_append_right _ h)) (by decide +kernel))
set_option maxRecDepth 20000 in
theorem gX9_forget_X9_wordOf : GoodIn wsX9_forget (va_wsS RX9 49 yX9_wordOf wsX9_wordOf) := goodIn_app (goodIn_of _ (by decide +kernel)) ggX9_forget_X9_wordOf
set_option maxRecDepth 20000 in
theorem ggX9_forget_X6_find : GoodIn wsX9_forget wsX6_find := goodIn_r _ [35, 36, 37, 38, 39, 40, 41, 42, 43, 44, 45, 46, 47, 69, 58, 59, 60, 61, 62, 63, 64, 65, 66, 67, 68, 70, 71] (by decide +kernel) (by decide +kernel)
set_option maxRecDepth 20000 in
theorem gX9_forget_X6_find : GoodIn wsX9_forget (wsV RX9 57 RX6 yX6_find wsX6_find) := goodIn_app (goodIn_of _ (by decide +kernel)) ggX9_forget_X6_find
set_option maxRecDepth 20000 in
theorem ggX9_forget_X5_remove : GoodIn wsX9_forget wsX5_remove := goodIn_r _ [51, 42, 47, 70, 71] (by decide +kernel) (by decide +kernel)
set_option maxRecDepth 20000 in
theorem gX9_forget_X5_remove : GoodIn wsX9_forget (wsV RX9 91 RX5 yX5_remove wsX5_remove) := goodIn_app (goodIn_of _ (by decide +kernel)) ggX9_forget_X5_remove
theorem dX9_forget_0 : decode cX9_forget 0 = .ok (.aload_n 0, 1) := by decide +kernel
theorem dX9_forget_1 : decode cX9_forget 1 = .ok (.getfield 19, 3) := by decide +kernel
theorem dX9_forget_4 : decode cX9_forget 4 = .ok (.lload_n 1, 1) := by decide +kernel
theorem dX9_forget_5 : decode cX9_forget 5 = .ok (.invokestatic 49, 3) := by decide +kernel
theorem dX9_forget_8 : decode cX9_forget 8 = .ok (.invokevirtual 57, 3) := by decide +kernel
theorem dX9_forget_11 : decode cX9_forget 11 = .ok (.astore_n 3, 1) := by decide +kernel
theorem dX9_forget_12 : decode cX9_forget 12 = .ok (.aload_n 3, 1) := by decide +kernel
theorem dX9_forget_13 : decode cX9_forget 13 = .ok (.ifnull 10, 3) := by decide +kernel
theorem dX9_forget_16 : decode cX9_forget 16 = .ok (.aload_n 3, 1) := by decide +kernel
theorem dX9_forget_17 : decode cX9_forget 17 = .ok (.getfield 72, 3) := by decide +kernel
theorem dX9_forget_20 : decode cX9_forget 20 = .ok (.ifCond .ne 13, 3) := by decide +kernel
theorem dX9_forget_23 : decode cX9_forget 23 = .ok (.new 65, 3) := by decide +kernel
theorem dX9_forget_26 : decode cX9_forget 26 = .ok (.dup, 1) := by decide +kernel
theorem dX9_forget_27 : decode cX9_forget 27 = .ok (.ldc 89, 2) := by decide +kernel
theorem dX9_forget_29 : decode cX9_forget 29 = .ok (.invokespecial 69, 3) := by decide +kernel
theorem dX9_forget_32 : decode cX9_forget 32 = .ok (.athrow, 1) := by decide +kernel
theorem dX9_forget_33 : decode cX9_forget 33 = .ok (.aload_n 3, 1) := by decide +kernel
theorem dX9_forget_34 : decode cX9_forget 34 = .ok (.getfield 72, 3) := by decide +kernel
theorem dX9_forget_37 : decode cX9_forget 37 = .ok (.istore 4, 2) := by decide +kernel
theorem dX9_forget_39 : decode cX9_forget 39 = .ok (.aload_n 0, 1) := by decide +kernel
theorem dX9_forget_40 : decode cX9_forget 40 = .ok (.getfield 33, 3) := by decide +kernel
theorem dX9_forget_43 : decode cX9_forget 43 = .ok (.aload_n 3, 1) := by decide +kernel
theorem dX9_forget_44 : decode cX9_forget 44 = .ok (.invokevirtual 91, 3) := by decide +kernel
theorem dX9_forget_47 : decode cX9_forget 47 = .ok (.aload_n 3, 1) := by decide +kernel
theorem dX9_forget_48 : decode cX9_forget 48 = .ok (.iconst 0, 1) := by decide +kernel
theorem dX9_forget_49 : decode cX9_forget 49 = .ok (.putfield 72, 3) := by decide +kernel
theorem dX9_forget_52 : decode cX9_forget 52 = .ok (.iload 4, 2) := by decide +kernel
theorem dX9_forget_54 : decode cX9_forget 54 = .ok (.ireturn, 1) := by decide +kernel
set_option maxRecDepth 20000 in
theorem ggX9_words_X5_size : GoodIn wsX9_words wsX5_size := goodIn_r _ [6, 7, 14, 15] (by decide +kernel) (by decide +kernel)
set_option maxRecDepth 20000 in
theorem gX9_words_X5_size : GoodIn wsX9_words (wsV RX9 94 RX5 yX5_size wsX5_size) := goodIn_app (goodIn_of _ (by decide +kernel)) ggX9_words_X5_size
theorem dX9_words_0 : decode cX9_words 0 = .ok (.aload_n 0, 1) := by decide +kernel
theorem dX9_words_1 : decode cX9_words 1 = .ok (.getfield 33, 3) := by decide +kernel
theorem dX9_words_4 : decode cX9_words 4 = .ok (.invokevirtual 94, 3) := by decide +kernel
theorem dX9_words_7 : decode cX9_words 7 = .ok (.ireturn, 1) := by decide +kernel
set_option maxRecDepth 20000 in
theorem ggX9_count_X9_wordOf : GoodIn wsX9_count wsX9_wordOf := goodIn_ca (goodIn_r _ [5, 6, 7, 8, 9, 10, 11, 12, 13, 14, 15, 16, 17, 18, 19, 20, 21, 22, 23, 24, 25, 26, 27, 59, 60, 61] (by decide +kernel) (by decide +kernel)) (goodIn_sub (fun _ h => List.mem_cons_of_mem _ (List.mem_append_right _ h)) (by decide +kernel))
set_option maxRecDepth 20000 in
theorem gX9_count_X9_wordOf : GoodIn wsX9_count (va_wsS RX9 49 yX9_wordOf wsX9_wordOf) := goodIn_app (goodIn_of _ (by decide +kernel)) ggX9_count_X9_wordOf
set_option maxRecDepth 20000 in
theorem ggX9_count_X6_find : GoodIn wsX9_count wsX6_find := goodIn_r _ [32, 33, 34, 35, 36, 37, 38, 39, 40, 41, 42, 43, 44, 62, 51, 52, 53, 54, 55, 56, 57, 58, 59, 60, 61, 63, 64] (by decide +kernel) (by decide +kernel)
set_option maxRecDepth 20000 in
theorem gX9_count_X6_find : GoodIn wsX9_count (wsV RX9 57 RX6 yX6_find wsX6_find) := goodIn_app (goodIn_of _ (by decide +kernel)) ggX9_count_X6_find
theorem dX9_count_0 : decode cX9_count 0 = .ok (.aload_n 0, 1) := by decide +kernel
theorem dX9_count_1 : decode cX9_count 1 = .ok (.getfield 19, 3) := by decide +kernel
theorem dX9_count_4 : decode cX9_count 4 = .ok (.lload_n 1, 1) := by decide +kernel
theorem dX9_count_5 : decode cX9_count 5 = .ok (.invokestatic 49, 3) := by decide +kernel
theorem dX9_count_8 : decode cX9_count 8 = .ok (.invokevirtual 57, 3) := by decide +kernel
theorem dX9_count_11 : decode cX9_count 11 = .ok (.astore_n 3, 1) := by decide +kernel
theorem dX9_count_12 : decode cX9_count 12 = .ok (.aload_n 3, 1) := by decide +kernel
theorem dX9_count_13 : decode cX9_count 13 = .ok (.ifnonnull 7, 3) := by decide +kernel
theorem dX9_count_16 : decode cX9_count 16 = .ok (.iconst 0, 1) := by decide +kernel
theorem dX9_count_17 : decode cX9_count 17 = .ok (.goto 7, 3) := by decide +kernel
theorem dX9_count_20 : decode cX9_count 20 = .ok (.aload_n 3, 1) := by decide +kernel
theorem dX9_count_21 : decode cX9_count 21 = .ok (.getfield 72, 3) := by decide +kernel
theorem dX9_count_24 : decode cX9_count 24 = .ok (.ireturn, 1) := by decide +kernel
set_option maxRecDepth 20000 in
theorem ggX9_wordAt_X9_numberAt : GoodIn wsX9_wordAt wsX9_numberAt := goodIn_ca (goodIn_r _ [5, 6, 7, 8, 9, 10, 11, 12, 13, 14, 21, 22, 23, 24, 25, 26, 27, 28, 29, 30, 31, 32, 33] (by decide +kernel) (by decide +kernel)) (goodIn_sub (fun _ h => List.mem_cons_of_mem _ (List.mem_append_right _ h)) (by decide +kernel))
set_option maxRecDepth 20000 in
theorem gX9_wordAt_X9_numberAt : GoodIn wsX9_wordAt (va_wsS RX9 98 yX9_numberAt wsX9_numberAt) := goodIn_app (goodIn_of _ (by decide +kernel)) ggX9_wordAt_X9_numberAt
theorem dX9_wordAt_0 : decode cX9_wordAt 0 = .ok (.aload_n 0, 1) := by decide +kernel
theorem dX9_wordAt_1 : decode cX9_wordAt 1 = .ok (.getfield 33, 3) := by decide +kernel
theorem dX9_wordAt_4 : decode cX9_wordAt 4 = .ok (.iload_n 1, 1) := by decide +kernel
theorem dX9_wordAt_5 : decode cX9_wordAt 5 = .ok (.invokestatic 98, 3) := by decide +kernel
theorem dX9_wordAt_8 : decode cX9_wordAt 8 = .ok (.lreturn, 1) := by decide +kernel
set_option maxRecDepth 20000 in
theorem ggX9_distance_X9_wordOf : GoodIn wsX9_distance wsX9_wordOf := goodIn_ca (goodIn_r _ [5, 6, 7, 8, 9, 10, 11, 12, 13, 14, 15, 16, 17, 18, 19, 20, 21, 22, 23, 24, 25, 26, 27, 69, 70, 71] (by decide +kernel) (by decide +kernel)) (goodIn_sub (fun _ h => List.mem_cons_of_mem _ (List.mem_append_right _ h)) (by decide +kernel))
set_option maxRecDepth 20000 in
theorem gX9_distance_X9_wordOf : GoodIn wsX9_distance (va_wsS RX9 49 yX9_wordOf wsX9_wordOf) := goodIn_app (goodIn_of _ (by decide +kernel)) ggX9_distance_X9_wordOf
set_option maxRecDepth 20000 in
theorem ggX9_distance_X1_lettersApart : GoodIn wsX9_distance wsX1_lettersApart := goodIn_r _ [32, 33, 34, 35, 36, 31, 37, 38, 39, 40, 41, 42, 43, 44, 45, 46, 47, 48, 49, 10, 50, 23, 22, 14, 51, 52, 53, 54, 55, 56, 57, 58, 59, 60, 61, 62, 69, 70, 71, 72, 73] (by decide +kernel) (by decide +kernel)
set_option maxRecDepth 20000 in
theorem gX9_distance_X1_lettersApart : GoodIn wsX9_distance (wsV RX9 102 RX1 yX1_lettersApart wsX1_lettersApart) := goodIn_app (goodIn_of _ (by decide +kernel)) ggX9_distance_X1_lettersApart
theorem dX9_distance_0 : decode cX9_distance 0 = .ok (.aload_n 0, 1) := by decide +kernel
theorem dX9_distance_1 : decode cX9_distance 1 = .ok (.getfield 12, 3) := by decide +kernel
theorem dX9_distance_4 : decode cX9_distance 4 = .ok (.lload_n 1, 1) := by decide +kernel
theorem dX9_distance_5 : decode cX9_distance 5 = .ok (.invokestatic 49, 3) := by decide +kernel
theorem dX9_distance_8 : decode cX9_distance 8 = .ok (.lload_n 3, 1) := by decide +kernel
theorem dX9_distance_9 : decode cX9_distance 9 = .ok (.invokestatic 49, 3) := by decide +kernel
theorem dX9_distance_12 : decode cX9_distance 12 = .ok (.invokevirtual 102, 3) := by decide +kernel
theorem dX9_distance_15 : decode cX9_distance 15 = .ok (.ireturn, 1) := by decide +kernel
set_option maxRecDepth 20000 in
theorem ggX9_price_X9_wordOf : GoodIn wsX9_price wsX9_wordOf := goodIn_ca (goodIn_r _ [5, 6, 7, 8, 9, 10, 11, 12, 13, 14, 15, 16, 17, 18, 19, 20, 21, 22, 23, 24, 25, 26, 27, 83, 84, 85] (by decide +kernel) (by decide +kernel)) (goodIn_sub (fun _ h => List.mem_cons_of_mem _ (List.mem_append_right _ h)) (by decide +kernel))
set_option maxRecDepth 20000 in
theorem gX9_price_X9_wordOf : GoodIn wsX9_price (va_wsS RX9 49 yX9_wordOf wsX9_wordOf) := goodIn_app (goodIn_of _ (by decide +kernel)) ggX9_price_X9_wordOf
set_option maxRecDepth 20000 in
theorem ggX9_price_X1_cheapest : GoodIn wsX9_price wsX1_cheapest := goodIn_r _ [32, 33, 34, 35, 36, 31, 37, 38, 39, 40, 41, 42, 43, 44, 45, 46, 47, 48, 49, 50, 51, 52, 53, 54, 55, 56, 10, 57, 23, 22, 14, 58, 59, 60, 61, 62, 63, 64, 65, 66, 67, 68, 69, 70, 71, 72, 73, 74, 75, 76, 83, 84, 85, 86, 87] (by decide +kernel) (by decide +kernel)
set_option maxRecDepth 20000 in
theorem gX9_price_X1_cheapest : GoodIn wsX9_price (wsV RX9 106 RX1 yX1_cheapest wsX1_cheapest) := goodIn_app (goodIn_of _ (by decide +kernel)) ggX9_price_X1_cheapest
theorem dX9_price_0 : decode cX9_price 0 = .ok (.aload_n 0, 1) := by decide +kernel
theorem dX9_price_1 : decode cX9_price 1 = .ok (.getfield 12, 3) := by decide +kernel
theorem dX9_price_4 : decode cX9_price 4 = .ok (.lload_n 1, 1) := by decide +kernel
theorem dX9_price_5 : decode cX9_price 5 = .ok (.invokestatic 49, 3) := by decide +kernel
theorem dX9_price_8 : decode cX9_price 8 = .ok (.lload_n 3, 1) := by decide +kernel
theorem dX9_price_9 : decode cX9_price 9 = .ok (.invokestatic 49, 3) := by decide +kernel
theorem dX9_price_12 : decode cX9_price 12 = .ok (.invokevirtual 106, 3) := by decide +kernel
theorem dX9_price_15 : decode cX9_price 15 = .ok (.ireturn, 1) := by decide +kernel
set_option maxRecDepth 20000 in
theorem ggX9_corrections_X9_wordOf : GoodIn wsX9_corrections wsX9_wordOf := goodIn_ca (goodIn_r _ [5, 6, 7, 8, 9, 10, 11, 12, 13, 14, 15, 16, 17, 18, 19, 20, 21, 22, 23, 24, 25, 26, 27, 144, 145, 146] (by decide +kernel) (by decide +kernel)) (goodIn_sub (fun _ h => List.mem_cons_of_mem _ (List.mem_append_right _ h)) (by decide +kernel))
set_option maxRecDepth 20000 in
theorem gX9_corrections_X9_wordOf : GoodIn wsX9_corrections (va_wsS RX9 49 yX9_wordOf wsX9_wordOf) := goodIn_app (goodIn_of _ (by decide +kernel)) ggX9_corrections_X9_wordOf
set_option maxRecDepth 20000 in
theorem ggX9_corrections_X9_checkWithin : GoodIn wsX9_corrections wsX9_checkWithin := goodIn_ca (goodIn_r _ [30, 6, 7] (by decide +kernel) (by decide +kernel)) (goodIn_sub (fun _ h => List.mem_cons_of_mem _ (List.mem_append_right _ h)) (by decide +kernel))
set_option maxRecDepth 20000 in
theorem gX9_corrections_X9_checkWithin : GoodIn wsX9_corrections (va_wsS RX9 53 yX9_checkWithin wsX9_checkWithin) := goodIn_app (goodIn_of _ (by decide +kernel)) ggX9_corrections_X9_checkWithin
set_option maxRecDepth 20000 in
theorem ggX9_corrections_X9_rank : GoodIn wsX9_corrections wsX9_rank := goodIn_r _ [34, 1, 35, 36, 37, 38, 39, 40, 41, 42, 43, 44, 45, 46, 47, 48, 49, 50, 51, 52, 53, 54, 4, 55, 56, 57, 58, 59, 60, 61, 62, 63, 64, 65, 66, 67, 68, 69, 70, 71, 72, 73, 74, 75, 76, 77, 10, 78, 23, 22, 14, 79, 80, 81, 82, 83, 84, 85, 86, 87, 88, 89, 90, 91, 92, 93, 94, 95, 96, 97, 98, 99, 100, 101, 102, 103, 104, 105, 106, 107, 108, 109, 110, 111, 112, 113, 114, 115, 116, 117, 118, 119, 120, 121, 122, 123, 124, 125, 126, 127, 128, 129, 130, 131, 132, 133, 134, 135, 136, 137, 138, 139, 140, 141, 142, 143, 147, 148, 149, 150, 151, 152, 153, 154, 155, 156, 144, 145, 146, 157, 158] (by decide +kernel) (by decide +kernel)
set_option maxRecDepth 20000 in
theorem gX9_corrections_X9_rank : GoodIn wsX9_corrections (wsV RX9 115 RX9 yX9_rank wsX9_rank) := goodIn_app (goodIn_of _ (by decide +kernel)) ggX9_corrections_X9_rank
set_option maxRecDepth 20000 in
theorem ggX9_corrections_X5_size : GoodIn wsX9_corrections wsX5_size := goodIn_r _ [46, 42, 155, 156] (by decide +kernel) (by decide +kernel)
set_option maxRecDepth 20000 in
theorem gX9_corrections_X5_size : GoodIn wsX9_corrections (wsV RX9 94 RX5 yX5_size wsX5_size) := goodIn_app (goodIn_of _ (by decide +kernel)) ggX9_corrections_X5_size
theorem dX9_corrections_0 : decode cX9_corrections 0 = .ok (.lload_n 1, 1) := by decide +kernel
theorem dX9_corrections_1 : decode cX9_corrections 1 = .ok (.invokestatic 49, 3) := by decide +kernel
theorem dX9_corrections_4 : decode cX9_corrections 4 = .ok (.astore 4, 2) := by decide +kernel
theorem dX9_corrections_6 : decode cX9_corrections 6 = .ok (.iload_n 3, 1) := by decide +kernel
theorem dX9_corrections_7 : decode cX9_corrections 7 = .ok (.iconst 0, 1) := by decide +kernel
theorem dX9_corrections_8 : decode cX9_corrections 8 = .ok (.iconst 3, 1) := by decide +kernel
theorem dX9_corrections_9 : decode cX9_corrections 9 = .ok (.invokestatic 53, 3) := by decide +kernel
theorem dX9_corrections_12 : decode cX9_corrections 12 = .ok (.aload_n 0, 1) := by decide +kernel
theorem dX9_corrections_13 : decode cX9_corrections 13 = .ok (.aload 4, 2) := by decide +kernel
theorem dX9_corrections_15 : decode cX9_corrections 15 = .ok (.iload_n 3, 1) := by decide +kernel
theorem dX9_corrections_16 : decode cX9_corrections 16 = .ok (.invokevirtual 115, 3) := by decide +kernel
theorem dX9_corrections_19 : decode cX9_corrections 19 = .ok (.aload_n 0, 1) := by decide +kernel
theorem dX9_corrections_20 : decode cX9_corrections 20 = .ok (.getfield 37, 3) := by decide +kernel
theorem dX9_corrections_23 : decode cX9_corrections 23 = .ok (.invokevirtual 94, 3) := by decide +kernel
theorem dX9_corrections_26 : decode cX9_corrections 26 = .ok (.ireturn, 1) := by decide +kernel
set_option maxRecDepth 20000 in
theorem ggX9_correction_X9_wordOf : GoodIn wsX9_correction wsX9_wordOf := goodIn_ca (goodIn_r _ [5, 6, 7, 8, 9, 10, 11, 12, 13, 14, 15, 16, 17, 18, 19, 20, 21, 22, 23, 24, 25, 26, 27, 149, 150, 151] (by decide +kernel) (by decide +kernel)) (goodIn_sub (fun _ h => List.mem_cons_of_mem _ (List.mem_append_left _ (List.mem_append_right _ h))) (by decide +kernel))
set_option maxRecDepth 20000 in
theorem gX9_correction_X9_wordOf : GoodIn wsX9_correction (va_wsS RX9 49 yX9_wordOf wsX9_wordOf) := goodIn_app (goodIn_of _ (by decide +kernel)) ggX9_correction_X9_wordOf
set_option maxRecDepth 20000 in
theorem ggX9_correction_X9_checkWithin : GoodIn wsX9_correction wsX9_checkWithin := goodIn_ca (goodIn_r _ [30, 6, 7] (by decide +kernel) (by decide +kernel)) (goodIn_sub (fun _ h => List.mem_cons_of_mem _ (List.mem_append_left _ (List.mem_append_right _ h))) (by decide +kernel))
set_option maxRecDepth 20000 in
theorem gX9_correction_X9_checkWithin : GoodIn wsX9_correction (va_wsS RX9 53 yX9_checkWithin wsX9_checkWithin) := goodIn_app (goodIn_of _ (by decide +kernel)) ggX9_correction_X9_checkWithin
set_option maxRecDepth 20000 in
theorem ggX9_correction_X9_rank : GoodIn wsX9_correction wsX9_rank := goodIn_r _ [34, 1, 35, 36, 37, 38, 39, 40, 41, 42, 43, 44, 45, 46, 47, 48, 49, 50, 51, 52, 53, 54, 4, 55, 56, 57, 58, 59, 60, 61, 62, 63, 64, 65, 66, 67, 68, 69, 70, 71, 72, 73, 74, 75, 76, 77, 10, 78, 23, 22, 14, 79, 80, 81, 82, 83, 84, 85, 86, 87, 88, 89, 90, 91, 92, 93, 94, 95, 96, 97, 98, 99, 100, 101, 102, 103, 104, 105, 106, 107, 108, 109, 110, 111, 112, 113, 114, 115, 116, 117, 118, 119, 120, 121, 122, 123, 124, 125, 126, 127, 128, 129, 130, 131, 132, 133, 134, 135, 136, 137, 143, 144, 145, 146, 147, 148, 152, 153, 154, 155, 156, 157, 158, 159, 160, 161, 149, 150, 151, 162, 163] (by decide +kernel) (by decide +kernel)
set_option maxRecDepth 20000 in
theorem gX9_correction_X9_rank : GoodIn wsX9_correction (wsV RX9 115 RX9 yX9_rank wsX9_rank) := goodIn_app (goodIn_of _ (by decide +kernel)) ggX9_correction_X9_rank
set_option maxRecDepth 20000 in
theorem ggX9_correction_X9_numberAt : GoodIn wsX9_correction wsX9_numberAt := goodIn_ca (goodIn_r _ [140, 141, 142, 47, 48, 49, 40, 50, 42, 51, 152, 153, 154, 155, 156, 157, 158, 159, 149, 150, 151, 160, 161] (by decide +kernel) (by decide +kernel)) (goodIn_sub (fun _ h => List.mem_cons_of_mem _ (List.mem_append_right _ h)) (by decide +kernel))
set_option maxRecDepth 20000 in
theorem gX9_correction_X9_numberAt : GoodIn wsX9_correction (va_wsS RX9 98 yX9_numberAt wsX9_numberAt) := goodIn_app (goodIn_of _ (by decide +kernel)) ggX9_correction_X9_numberAt
theorem dX9_correction_0 : decode cX9_correction 0 = .ok (.lload_n 1, 1) := by decide +kernel
theorem dX9_correction_1 : decode cX9_correction 1 = .ok (.invokestatic 49, 3) := by decide +kernel
theorem dX9_correction_4 : decode cX9_correction 4 = .ok (.astore 5, 2) := by decide +kernel
theorem dX9_correction_6 : decode cX9_correction 6 = .ok (.iload_n 3, 1) := by decide +kernel
theorem dX9_correction_7 : decode cX9_correction 7 = .ok (.iconst 0, 1) := by decide +kernel
theorem dX9_correction_8 : decode cX9_correction 8 = .ok (.iconst 3, 1) := by decide +kernel
theorem dX9_correction_9 : decode cX9_correction 9 = .ok (.invokestatic 53, 3) := by decide +kernel
theorem dX9_correction_12 : decode cX9_correction 12 = .ok (.aload_n 0, 1) := by decide +kernel
theorem dX9_correction_13 : decode cX9_correction 13 = .ok (.aload 5, 2) := by decide +kernel
theorem dX9_correction_15 : decode cX9_correction 15 = .ok (.iload_n 3, 1) := by decide +kernel
theorem dX9_correction_16 : decode cX9_correction 16 = .ok (.invokevirtual 115, 3) := by decide +kernel
theorem dX9_correction_19 : decode cX9_correction 19 = .ok (.aload_n 0, 1) := by decide +kernel
theorem dX9_correction_20 : decode cX9_correction 20 = .ok (.getfield 37, 3) := by decide +kernel
theorem dX9_correction_23 : decode cX9_correction 23 = .ok (.iload 4, 2) := by decide +kernel
theorem dX9_correction_25 : decode cX9_correction 25 = .ok (.invokestatic 98, 3) := by decide +kernel
theorem dX9_correction_28 : decode cX9_correction 28 = .ok (.lreturn, 1) := by decide +kernel
set_option maxRecDepth 20000 in
theorem ggX9_nearest_X9_wordOf : GoodIn wsX9_nearest wsX9_wordOf := goodIn_ca (goodIn_r _ [10, 11, 12, 13, 14, 15, 16, 17, 18, 19, 20, 21, 22, 23, 24, 25, 26, 27, 28, 29, 30, 31, 32, 90, 91, 92] (by decide +kernel) (by decide +kernel)) (goodIn_sub (fun _ h => List.mem_cons_of_mem _ (List.mem_append_right _ h)) (by decide +kernel))
set_option maxRecDepth 20000 in
theorem gX9_nearest_X9_wordOf : GoodIn wsX9_nearest (va_wsS RX9 49 yX9_wordOf wsX9_wordOf) := goodIn_app (goodIn_of _ (by decide +kernel)) ggX9_nearest_X9_wordOf
set_option maxRecDepth 20000 in
theorem ggX9_nearest_X5_size : GoodIn wsX9_nearest wsX5_size := goodIn_r _ [37, 38, 93, 94] (by decide +kernel) (by decide +kernel)
set_option maxRecDepth 20000 in
theorem gX9_nearest_X5_size : GoodIn wsX9_nearest (wsV RX9 94 RX5 yX5_size wsX5_size) := goodIn_app (goodIn_of _ (by decide +kernel)) ggX9_nearest_X5_size
set_option maxRecDepth 20000 in
theorem ggX9_nearest_X5_at : GoodIn wsX9_nearest wsX5_at := goodIn_r _ [42, 38, 43, 93, 94] (by decide +kernel) (by decide +kernel)
set_option maxRecDepth 20000 in
theorem gX9_nearest_X5_at : GoodIn wsX9_nearest (wsV RX9 119 RX5 yX5_at wsX5_at) := goodIn_app (goodIn_of _ (by decide +kernel)) ggX9_nearest_X5_at
set_option maxRecDepth 20000 in
theorem ggX9_nearest_X1_lettersApart : GoodIn wsX9_nearest wsX1_lettersApart := goodIn_r _ [48, 49, 50, 51, 52, 47, 53, 54, 55, 56, 57, 58, 59, 60, 61, 62, 63, 64, 65, 15, 66, 28, 27, 19, 67, 68, 69, 70, 71, 4, 5, 6, 72, 73, 74, 75, 90, 91, 92, 95, 96] (by decide +kernel) (by decide +kernel)
set_option maxRecDepth 20000 in
theorem gX9_nearest_X1_lettersApart : GoodIn wsX9_nearest (wsV RX9 102 RX1 yX1_lettersApart wsX1_lettersApart) := goodIn_app (goodIn_of _ (by decide +kernel)) ggX9_nearest_X1_lettersApart
theorem dX9_nearest_0 : decode cX9_nearest 0 = .ok (.lload_n 1, 1) := by decide +kernel
theorem dX9_nearest_1 : decode cX9_nearest 1 = .ok (.invokestatic 49, 3) := by decide +kernel
theorem dX9_nearest_4 : decode cX9_nearest 4 = .ok (.astore_n 3, 1) := by decide +kernel
theorem dX9_nearest_5 : decode cX9_nearest 5 = .ok (.iconst (-1), 1) := by decide +kernel
theorem dX9_nearest_6 : decode cX9_nearest 6 = .ok (.istore 4, 2) := by decide +kernel
theorem dX9_nearest_8 : decode cX9_nearest 8 = .ok (.iconst 0, 1) := by decide +kernel
theorem dX9_nearest_9 : decode cX9_nearest 9 = .ok (.istore 5, 2) := by decide +kernel
theorem dX9_nearest_11 : decode cX9_nearest 11 = .ok (.iload 5, 2) := by decide +kernel
theorem dX9_nearest_13 : decode cX9_nearest 13 = .ok (.aload_n 0, 1) := by decide +kernel
theorem dX9_nearest_14 : decode cX9_nearest 14 = .ok (.getfield 33, 3) := by decide +kernel
theorem dX9_nearest_17 : decode cX9_nearest 17 = .ok (.invokevirtual 94, 3) := by decide +kernel
theorem dX9_nearest_20 : decode cX9_nearest 20 = .ok (.if_icmp .ge 60, 3) := by decide +kernel
theorem dX9_nearest_23 : decode cX9_nearest 23 = .ok (.aload_n 0, 1) := by decide +kernel
theorem dX9_nearest_24 : decode cX9_nearest 24 = .ok (.getfield 33, 3) := by decide +kernel
theorem dX9_nearest_27 : decode cX9_nearest 27 = .ok (.iload 5, 2) := by decide +kernel
theorem dX9_nearest_29 : decode cX9_nearest 29 = .ok (.invokevirtual 119, 3) := by decide +kernel
theorem dX9_nearest_32 : decode cX9_nearest 32 = .ok (.astore 6, 2) := by decide +kernel
theorem dX9_nearest_34 : decode cX9_nearest 34 = .ok (.aload 6, 2) := by decide +kernel
theorem dX9_nearest_36 : decode cX9_nearest 36 = .ok (.ifnull 38, 3) := by decide +kernel
theorem dX9_nearest_39 : decode cX9_nearest 39 = .ok (.aload_n 0, 1) := by decide +kernel
theorem dX9_nearest_40 : decode cX9_nearest 40 = .ok (.getfield 12, 3) := by decide +kernel
theorem dX9_nearest_43 : decode cX9_nearest 43 = .ok (.aload 6, 2) := by decide +kernel
theorem dX9_nearest_45 : decode cX9_nearest 45 = .ok (.getfield 123, 3) := by decide +kernel
theorem dX9_nearest_48 : decode cX9_nearest 48 = .ok (.aload_n 3, 1) := by decide +kernel
theorem dX9_nearest_49 : decode cX9_nearest 49 = .ok (.invokevirtual 102, 3) := by decide +kernel
theorem dX9_nearest_52 : decode cX9_nearest 52 = .ok (.istore 7, 2) := by decide +kernel
theorem dX9_nearest_54 : decode cX9_nearest 54 = .ok (.iload 4, 2) := by decide +kernel
theorem dX9_nearest_56 : decode cX9_nearest 56 = .ok (.iconst (-1), 1) := by decide +kernel
theorem dX9_nearest_57 : decode cX9_nearest 57 = .ok (.if_icmp .ne 8, 3) := by decide +kernel
theorem dX9_nearest_60 : decode cX9_nearest 60 = .ok (.iload 7, 2) := by decide +kernel
theorem dX9_nearest_62 : decode cX9_nearest 62 = .ok (.goto 10, 3) := by decide +kernel
theorem dX9_nearest_65 : decode cX9_nearest 65 = .ok (.iload 4, 2) := by decide +kernel
theorem dX9_nearest_67 : decode cX9_nearest 67 = .ok (.iload 7, 2) := by decide +kernel
theorem dX9_nearest_69 : decode cX9_nearest 69 = .ok (.invokestatic 127, 3) := by decide +kernel
theorem dX9_nearest_72 : decode cX9_nearest 72 = .ok (.istore 4, 2) := by decide +kernel
theorem dX9_nearest_74 : decode cX9_nearest 74 = .ok (.iinc 5 1, 3) := by decide +kernel
theorem dX9_nearest_77 : decode cX9_nearest 77 = .ok (.goto (-66), 3) := by decide +kernel
theorem dX9_nearest_80 : decode cX9_nearest 80 = .ok (.iload 4, 2) := by decide +kernel
theorem dX9_nearest_82 : decode cX9_nearest 82 = .ok (.ireturn, 1) := by decide +kernel
set_option maxRecDepth 20000 in
theorem ggX9_trieNodes_X7_nodesOf : GoodIn wsX9_trieNodes wsX7_nodesOf := goodIn_r _ [5, 6, 7, 8, 9, 10, 11, 12, 13, 14, 15, 16, 17, 18, 4, 19, 20, 21, 22, 23, 24, 25, 26, 27, 28, 29, 30, 31, 38, 39, 40, 41, 42, 43, 44, 45, 46, 47, 48, 49, 50] (by decide +kernel) (by decide +kernel)
set_option maxRecDepth 20000 in
theorem gX9_trieNodes_X7_nodesOf : GoodIn wsX9_trieNodes (va_wsS RX9 133 yX7_nodesOf wsX7_nodesOf) := goodIn_app (goodIn_of _ (by decide +kernel)) ggX9_trieNodes_X7_nodesOf
theorem dX9_trieNodes_0 : decode cX9_trieNodes 0 = .ok (.aload_n 0, 1) := by decide +kernel
theorem dX9_trieNodes_1 : decode cX9_trieNodes 1 = .ok (.getfield 33, 3) := by decide +kernel
theorem dX9_trieNodes_4 : decode cX9_trieNodes 4 = .ok (.invokestatic 133, 3) := by decide +kernel
theorem dX9_trieNodes_7 : decode cX9_trieNodes 7 = .ok (.ireturn, 1) := by decide +kernel
set_option maxRecDepth 20000 in
theorem ggX9_trieReached_X9_wordOf : GoodIn wsX9_trieReached wsX9_wordOf := goodIn_ca (goodIn_r _ [7, 8, 9, 10, 11, 12, 13, 14, 15, 16, 17, 18, 19, 20, 21, 22, 23, 24, 25, 26, 27, 28, 29, 127, 128, 129] (by decide +kernel) (by decide +kernel)) (goodIn_sub (fun _ h => List.mem_cons_of_mem _ (List.mem_append_right _ h)) (by decide +kernel))
set_option maxRecDepth 20000 in
theorem gX9_trieReached_X9_wordOf : GoodIn wsX9_trieReached (va_wsS RX9 49 yX9_wordOf wsX9_wordOf) := goodIn_app (goodIn_of _ (by decide +kernel)) ggX9_trieReached_X9_wordOf
set_option maxRecDepth 20000 in
theorem ggX9_trieReached_X9_checkWithin : GoodIn wsX9_trieReached wsX9_checkWithin := goodIn_ca (goodIn_r _ [32, 8, 9] (by decide +kernel) (by decide +kernel)) (goodIn_sub (fun _ h => List.mem_cons_of_mem _ (List.mem_append_right _ h)) (by decide +kernel))
set_option maxRecDepth 20000 in
theorem gX9_trieReached_X9_checkWithin : GoodIn wsX9_trieReached (va_wsS RX9 53 yX9_checkWithin wsX9_checkWithin) := goodIn_app (goodIn_of _ (by decide +kernel)) ggX9_trieReached_X9_checkWithin
set_option maxRecDepth 20000 in
theorem ggX9_trieReached_X7_reach : GoodIn wsX9_trieReached wsX7_reach := goodIn_r _ [37, 38, 39, 40, 41, 42, 43, 44, 45, 46, 47, 48, 49, 50, 51, 52, 53, 54, 55, 56, 57, 58, 59, 60, 61, 62, 36, 63, 64, 65, 66, 67, 68, 69, 70, 71, 72, 73, 74, 75, 76, 77, 78, 79, 80, 81, 82, 83, 84, 85, 86, 87, 88, 89, 90, 91, 92, 93, 94, 95, 96, 97, 98, 99, 100, 101, 102, 103, 104, 105, 12, 106, 25, 107, 108, 109, 110, 24, 16, 111, 112, 113, 114, 115, 116, 117, 118, 119, 120, 130, 131, 132, 133, 134, 135, 136, 137, 138, 139, 140, 127, 128, 129, 141, 142, 143, 144] (by decide +kernel) (by decide +kernel)
set_option maxRecDepth 20000 in
theorem gX9_trieReached_X7_reach : GoodIn wsX9_trieReached (wsV RX9 137 RX7 yX7_reach wsX7_reach) := goodIn_app (goodIn_of _ (by decide +kernel)) ggX9_trieReached_X7_reach
theorem dX9_trieReached_0 : decode cX9_trieReached 0 = .ok (.lload_n 1, 1) := by decide +kernel
theorem dX9_trieReached_1 : decode cX9_trieReached 1 = .ok (.invokestatic 49, 3) := by decide +kernel
theorem dX9_trieReached_4 : decode cX9_trieReached 4 = .ok (.astore 4, 2) := by decide +kernel
theorem dX9_trieReached_6 : decode cX9_trieReached 6 = .ok (.iload_n 3, 1) := by decide +kernel
theorem dX9_trieReached_7 : decode cX9_trieReached 7 = .ok (.iconst 0, 1) := by decide +kernel
theorem dX9_trieReached_8 : decode cX9_trieReached 8 = .ok (.iconst 3, 1) := by decide +kernel
theorem dX9_trieReached_9 : decode cX9_trieReached 9 = .ok (.invokestatic 53, 3) := by decide +kernel
theorem dX9_trieReached_12 : decode cX9_trieReached 12 = .ok (.aload_n 0, 1) := by decide +kernel
theorem dX9_trieReached_13 : decode cX9_trieReached 13 = .ok (.getfield 26, 3) := by decide +kernel
theorem dX9_trieReached_16 : decode cX9_trieReached 16 = .ok (.aload_n 0, 1) := by decide +kernel
theorem dX9_trieReached_17 : decode cX9_trieReached 17 = .ok (.getfield 12, 3) := by decide +kernel
theorem dX9_trieReached_20 : decode cX9_trieReached 20 = .ok (.aload_n 0, 1) := by decide +kernel
theorem dX9_trieReached_21 : decode cX9_trieReached 21 = .ok (.getfield 33, 3) := by decide +kernel
theorem dX9_trieReached_24 : decode cX9_trieReached 24 = .ok (.aload 4, 2) := by decide +kernel
theorem dX9_trieReached_26 : decode cX9_trieReached 26 = .ok (.iload_n 3, 1) := by decide +kernel
theorem dX9_trieReached_27 : decode cX9_trieReached 27 = .ok (.invokevirtual 137, 3) := by decide +kernel
theorem dX9_trieReached_30 : decode cX9_trieReached 30 = .ok (.ireturn, 1) := by decide +kernel
set_option maxRecDepth 20000 in
theorem ggX9_rows_X9_wordOf : GoodIn wsX9_rows wsX9_wordOf := goodIn_ca (goodIn_r _ [7, 8, 9, 10, 11, 12, 13, 14, 15, 16, 17, 18, 19, 20, 21, 22, 23, 24, 25, 26, 27, 28, 29, 135, 136, 137] (by decide +kernel) (by decide +kernel)) (goodIn_sub (fun _ h => List.mem_cons_of_mem _ (List.mem_append_right _ h)) (by decide +kernel))
set_option maxRecDepth 20000 in
theorem gX9_rows_X9_wordOf : GoodIn wsX9_rows (va_wsS RX9 49 yX9_wordOf wsX9_wordOf) := goodIn_app (goodIn_of _ (by decide +kernel)) ggX9_rows_X9_wordOf
set_option maxRecDepth 20000 in
theorem ggX9_rows_X9_checkWithin : GoodIn wsX9_rows wsX9_checkWithin := goodIn_ca (goodIn_r _ [32, 8, 9] (by decide +kernel) (by decide +kernel)) (goodIn_sub (fun _ h => List.mem_cons_of_mem _ (List.mem_append_right _ h)) (by decide +kernel))
set_option maxRecDepth 20000 in
theorem gX9_rows_X9_checkWithin : GoodIn wsX9_rows (va_wsS RX9 53 yX9_checkWithin wsX9_checkWithin) := goodIn_app (goodIn_of _ (by decide +kernel)) ggX9_rows_X9_checkWithin
set_option maxRecDepth 20000 in
theorem ggX9_rows_X7_reach : GoodIn wsX9_rows wsX7_reach := goodIn_r _ [37, 38, 39, 40, 41, 42, 43, 44, 45, 46, 47, 48, 49, 50, 51, 52, 53, 54, 55, 56, 57, 58, 59, 60, 61, 62, 36, 63, 64, 65, 66, 67, 68, 69, 70, 71, 72, 73, 74, 75, 76, 77, 78, 79, 80, 81, 82, 83, 84, 85, 86, 87, 88, 89, 90, 91, 92, 93, 94, 95, 96, 97, 98, 99, 100, 101, 102, 103, 104, 105, 12, 106, 25, 107, 108, 109, 110, 24, 16, 111, 112, 113, 114, 115, 116, 117, 118, 119, 120, 138, 139, 140, 141, 142, 143, 144, 145, 146, 147, 148, 135, 136, 137, 149, 150, 151, 152] (by decide +kernel) (by decide +kernel)
set_option maxRecDepth 20000 in
theorem gX9_rows_X7_reach : GoodIn wsX9_rows (wsV RX9 137 RX7 yX7_reach wsX7_reach) := goodIn_app (goodIn_of _ (by decide +kernel)) ggX9_rows_X7_reach
set_option maxRecDepth 20000 in
theorem ggX9_rows_X7_rowsSeen : GoodIn wsX9_rows wsX7_rowsSeen := goodIn_r _ [124, 38, 125, 126, 127, 42, 128, 44, 138, 147, 148] (by decide +kernel) (by decide +kernel)
set_option maxRecDepth 20000 in
theorem gX9_rows_X7_rowsSeen : GoodIn wsX9_rows (wsV RX9 141 RX7 yX7_rowsSeen wsX7_rowsSeen) := goodIn_app (goodIn_of _ (by decide +kernel)) ggX9_rows_X7_rowsSeen
theorem dX9_rows_0 : decode cX9_rows 0 = .ok (.lload_n 1, 1) := by decide +kernel
theorem dX9_rows_1 : decode cX9_rows 1 = .ok (.invokestatic 49, 3) := by decide +kernel
theorem dX9_rows_4 : decode cX9_rows 4 = .ok (.astore 4, 2) := by decide +kernel
theorem dX9_rows_6 : decode cX9_rows 6 = .ok (.iload_n 3, 1) := by decide +kernel
theorem dX9_rows_7 : decode cX9_rows 7 = .ok (.iconst 0, 1) := by decide +kernel
theorem dX9_rows_8 : decode cX9_rows 8 = .ok (.iconst 3, 1) := by decide +kernel
theorem dX9_rows_9 : decode cX9_rows 9 = .ok (.invokestatic 53, 3) := by decide +kernel
theorem dX9_rows_12 : decode cX9_rows 12 = .ok (.aload_n 0, 1) := by decide +kernel
theorem dX9_rows_13 : decode cX9_rows 13 = .ok (.getfield 26, 3) := by decide +kernel
theorem dX9_rows_16 : decode cX9_rows 16 = .ok (.aload_n 0, 1) := by decide +kernel
theorem dX9_rows_17 : decode cX9_rows 17 = .ok (.getfield 12, 3) := by decide +kernel
theorem dX9_rows_20 : decode cX9_rows 20 = .ok (.aload_n 0, 1) := by decide +kernel
theorem dX9_rows_21 : decode cX9_rows 21 = .ok (.getfield 33, 3) := by decide +kernel
theorem dX9_rows_24 : decode cX9_rows 24 = .ok (.aload 4, 2) := by decide +kernel
theorem dX9_rows_26 : decode cX9_rows 26 = .ok (.iload_n 3, 1) := by decide +kernel
theorem dX9_rows_27 : decode cX9_rows 27 = .ok (.invokevirtual 137, 3) := by decide +kernel
theorem dX9_rows_30 : decode cX9_rows 30 = .ok (.pop, 1) := by decide +kernel
theorem dX9_rows_31 : decode cX9_rows 31 = .ok (.aload_n 0, 1) := by decide +kernel
theorem dX9_rows_32 : decode cX9_rows 32 = .ok (.getfield 26, 3) := by decide +kernel
theorem dX9_rows_35 : decode cX9_rows 35 = .ok (.invokevirtual 141, 3) := by decide +kernel
theorem dX9_rows_38 : decode cX9_rows 38 = .ok (.ireturn, 1) := by decide +kernel
set_option maxRecDepth 20000 in
theorem ggX9_treeNodes_X6_size : GoodIn wsX9_treeNodes wsX6_size := goodIn_r _ [6, 7, 8, 9, 10, 11, 12, 13, 20, 21, 22] (by decide +kernel) (by decide +kernel)
set_option maxRecDepth 20000 in
theorem gX9_treeNodes_X6_size : GoodIn wsX9_treeNodes (wsV RX9 144 RX6 yX6_size wsX6_size) := goodIn_app (goodIn_of _ (by decide +kernel)) ggX9_treeNodes_X6_size
theorem dX9_treeNodes_0 : decode cX9_treeNodes 0 = .ok (.aload_n 0, 1) := by decide +kernel
theorem dX9_treeNodes_1 : decode cX9_treeNodes 1 = .ok (.getfield 19, 3) := by decide +kernel
theorem dX9_treeNodes_4 : decode cX9_treeNodes 4 = .ok (.invokevirtual 144, 3) := by decide +kernel
theorem dX9_treeNodes_7 : decode cX9_treeNodes 7 = .ok (.ireturn, 1) := by decide +kernel
set_option maxRecDepth 20000 in
theorem ggX9_treeDepth_X9_wordOf : GoodIn wsX9_treeDepth wsX9_wordOf := goodIn_ca (goodIn_r _ [5, 6, 7, 8, 9, 10, 11, 12, 13, 14, 15, 16, 17, 18, 19, 20, 21, 22, 23, 24, 25, 26, 27, 59, 60, 61] (by decide +kernel) (by decide +kernel)) (goodIn_sub (fun _ h => List.mem_cons_of_mem _ (List.mem_append_right _ h)) (by decide +kernel))
set_option maxRecDepth 20000 in
theorem gX9_treeDepth_X9_wordOf : GoodIn wsX9_treeDepth (va_wsS RX9 49 yX9_wordOf wsX9_wordOf) := goodIn_app (goodIn_of _ (by decide +kernel)) ggX9_treeDepth_X9_wordOf
set_option maxRecDepth 20000 in
theorem ggX9_treeDepth_X6_find : GoodIn wsX9_treeDepth wsX6_find := goodIn_r _ [32, 33, 34, 35, 36, 37, 38, 39, 40, 41, 42, 43, 44, 62, 51, 52, 53, 54, 55, 56, 57, 58, 59, 60, 61, 63, 64] (by decide +kernel) (by decide +kernel)
set_option maxRecDepth 20000 in
theorem gX9_treeDepth_X6_find : GoodIn wsX9_treeDepth (wsV RX9 57 RX6 yX6_find wsX6_find) := goodIn_app (goodIn_of _ (by decide +kernel)) ggX9_treeDepth_X6_find
theorem dX9_treeDepth_0 : decode cX9_treeDepth 0 = .ok (.aload_n 0, 1) := by decide +kernel
theorem dX9_treeDepth_1 : decode cX9_treeDepth 1 = .ok (.getfield 19, 3) := by decide +kernel
theorem dX9_treeDepth_4 : decode cX9_treeDepth 4 = .ok (.lload_n 1, 1) := by decide +kernel
theorem dX9_treeDepth_5 : decode cX9_treeDepth 5 = .ok (.invokestatic 49, 3) := by decide +kernel
theorem dX9_treeDepth_8 : decode cX9_treeDepth 8 = .ok (.invokevirtual 57, 3) := by decide +kernel
theorem dX9_treeDepth_11 : decode cX9_treeDepth 11 = .ok (.astore_n 3, 1) := by decide +kernel
theorem dX9_treeDepth_12 : decode cX9_treeDepth 12 = .ok (.aload_n 3, 1) := by decide +kernel
theorem dX9_treeDepth_13 : decode cX9_treeDepth 13 = .ok (.ifnonnull 7, 3) := by decide +kernel
theorem dX9_treeDepth_16 : decode cX9_treeDepth 16 = .ok (.iconst (-1), 1) := by decide +kernel
theorem dX9_treeDepth_17 : decode cX9_treeDepth 17 = .ok (.goto 7, 3) := by decide +kernel
theorem dX9_treeDepth_20 : decode cX9_treeDepth 20 = .ok (.aload_n 3, 1) := by decide +kernel
theorem dX9_treeDepth_21 : decode cX9_treeDepth 21 = .ok (.getfield 145, 3) := by decide +kernel
theorem dX9_treeDepth_24 : decode cX9_treeDepth 24 = .ok (.ireturn, 1) := by decide +kernel
set_option maxRecDepth 20000 in
theorem ggX9_treeParent_X9_wordOf : GoodIn wsX9_treeParent wsX9_wordOf := goodIn_ca (goodIn_r _ [6, 7, 8, 9, 10, 11, 12, 13, 14, 15, 16, 17, 18, 19, 20, 21, 22, 23, 24, 25, 26, 27, 28, 60, 61, 62] (by decide +kernel) (by decide +kernel)) (goodIn_sub (fun _ h => List.mem_cons_of_mem _ (List.mem_append_right _ h)) (by decide +kernel))
set_option maxRecDepth 20000 in
theorem gX9_treeParent_X9_wordOf : GoodIn wsX9_treeParent (va_wsS RX9 49 yX9_wordOf wsX9_wordOf) := goodIn_app (goodIn_of _ (by decide +kernel)) ggX9_treeParent_X9_wordOf
set_option maxRecDepth 20000 in
theorem ggX9_treeParent_X6_find : GoodIn wsX9_treeParent wsX6_find := goodIn_r _ [33, 34, 35, 36, 37, 38, 39, 40, 41, 42, 43, 44, 45, 63, 52, 53, 54, 55, 56, 57, 58, 59, 60, 61, 62, 64, 65] (by decide +kernel) (by decide +kernel)
set_option maxRecDepth 20000 in
theorem gX9_treeParent_X6_find : GoodIn wsX9_treeParent (wsV RX9 57 RX6 yX6_find wsX6_find) := goodIn_app (goodIn_of _ (by decide +kernel)) ggX9_treeParent_X6_find
theorem dX9_treeParent_0 : decode cX9_treeParent 0 = .ok (.aload_n 0, 1) := by decide +kernel
theorem dX9_treeParent_1 : decode cX9_treeParent 1 = .ok (.getfield 19, 3) := by decide +kernel
theorem dX9_treeParent_4 : decode cX9_treeParent 4 = .ok (.lload_n 1, 1) := by decide +kernel
theorem dX9_treeParent_5 : decode cX9_treeParent 5 = .ok (.invokestatic 49, 3) := by decide +kernel
theorem dX9_treeParent_8 : decode cX9_treeParent 8 = .ok (.invokevirtual 57, 3) := by decide +kernel
theorem dX9_treeParent_11 : decode cX9_treeParent 11 = .ok (.astore_n 3, 1) := by decide +kernel
theorem dX9_treeParent_12 : decode cX9_treeParent 12 = .ok (.aload_n 3, 1) := by decide +kernel
theorem dX9_treeParent_13 : decode cX9_treeParent 13 = .ok (.ifnull 10, 3) := by decide +kernel
theorem dX9_treeParent_16 : decode cX9_treeParent 16 = .ok (.aload_n 3, 1) := by decide +kernel
theorem dX9_treeParent_17 : decode cX9_treeParent 17 = .ok (.getfield 148, 3) := by decide +kernel
theorem dX9_treeParent_20 : decode cX9_treeParent 20 = .ok (.ifnonnull 7, 3) := by decide +kernel
theorem dX9_treeParent_23 : decode cX9_treeParent 23 = .ok (.ldc2_w 152, 3) := by decide +kernel
theorem dX9_treeParent_26 : decode cX9_treeParent 26 = .ok (.lreturn, 1) := by decide +kernel
theorem dX9_treeParent_27 : decode cX9_treeParent 27 = .ok (.aload_n 3, 1) := by decide +kernel
theorem dX9_treeParent_28 : decode cX9_treeParent 28 = .ok (.getfield 148, 3) := by decide +kernel
theorem dX9_treeParent_31 : decode cX9_treeParent 31 = .ok (.getfield 123, 3) := by decide +kernel
theorem dX9_treeParent_34 : decode cX9_treeParent 34 = .ok (.getfield 154, 3) := by decide +kernel
theorem dX9_treeParent_37 : decode cX9_treeParent 37 = .ok (.lreturn, 1) := by decide +kernel
set_option maxRecDepth 20000 in
theorem ggX9_treeCompared_X9_wordOf : GoodIn wsX9_treeCompared wsX9_wordOf := goodIn_ca (goodIn_r _ [6, 7, 8, 9, 10, 11, 12, 13, 14, 15, 16, 17, 18, 19, 20, 21, 22, 23, 24, 25, 26, 27, 28, 96, 97, 98] (by decide +kernel) (by decide +kernel)) (goodIn_sub (fun _ h => List.mem_cons_of_mem _ (List.mem_append_right _ h)) (by decide +kernel))
set_option maxRecDepth 20000 in
theorem gX9_treeCompared_X9_wordOf : GoodIn wsX9_treeCompared (va_wsS RX9 49 yX9_wordOf wsX9_wordOf) := goodIn_app (goodIn_of _ (by decide +kernel)) ggX9_treeCompared_X9_wordOf
set_option maxRecDepth 20000 in
theorem ggX9_treeCompared_X9_checkWithin : GoodIn wsX9_treeCompared wsX9_checkWithin := goodIn_ca (goodIn_r _ [31, 7, 8] (by decide +kernel) (by decide +kernel)) (goodIn_sub (fun _ h => List.mem_cons_of_mem _ (List.mem_append_right _ h)) (by decide +kernel))
set_option maxRecDepth 20000 in
theorem gX9_treeCompared_X9_checkWithin : GoodIn wsX9_treeCompared (va_wsS RX9 53 yX9_checkWithin wsX9_checkWithin) := goodIn_app (goodIn_of _ (by decide +kernel)) ggX9_treeCompared_X9_checkWithin
set_option maxRecDepth 20000 in
theorem ggX9_treeCompared_X6_search : GoodIn wsX9_treeCompared wsX6_search := goodIn_r _ [36, 37, 38, 39, 40, 41, 42, 43, 44, 45, 46, 47, 48, 49, 50, 35, 51, 52, 53, 54, 55, 56, 57, 58, 59, 60, 61, 62, 63, 64, 65, 66, 67, 68, 69, 70, 71, 72, 73, 74, 75, 76, 77, 11, 78, 24, 23, 15, 79, 80, 81, 82, 83, 84, 85, 86, 87, 88, 89, 99, 100, 101, 102, 103, 104, 105, 106, 107, 108, 109, 96, 97, 98, 110, 111] (by decide +kernel) (by decide +kernel)
set_option maxRecDepth 20000 in
theorem gX9_treeCompared_X6_search : GoodIn wsX9_treeCompared (wsV RX9 160 RX6 yX6_search wsX6_search) := goodIn_app (goodIn_of _ (by decide +kernel)) ggX9_treeCompared_X6_search
theorem dX9_treeCompared_0 : decode cX9_treeCompared 0 = .ok (.lload_n 1, 1) := by decide +kernel
theorem dX9_treeCompared_1 : decode cX9_treeCompared 1 = .ok (.invokestatic 49, 3) := by decide +kernel
theorem dX9_treeCompared_4 : decode cX9_treeCompared 4 = .ok (.astore 4, 2) := by decide +kernel
theorem dX9_treeCompared_6 : decode cX9_treeCompared 6 = .ok (.iload_n 3, 1) := by decide +kernel
theorem dX9_treeCompared_7 : decode cX9_treeCompared 7 = .ok (.iconst 0, 1) := by decide +kernel
theorem dX9_treeCompared_8 : decode cX9_treeCompared 8 = .ok (.iconst 3, 1) := by decide +kernel
theorem dX9_treeCompared_9 : decode cX9_treeCompared 9 = .ok (.invokestatic 53, 3) := by decide +kernel
theorem dX9_treeCompared_12 : decode cX9_treeCompared 12 = .ok (.aload_n 0, 1) := by decide +kernel
theorem dX9_treeCompared_13 : decode cX9_treeCompared 13 = .ok (.getfield 19, 3) := by decide +kernel
theorem dX9_treeCompared_16 : decode cX9_treeCompared 16 = .ok (.aload_n 0, 1) := by decide +kernel
theorem dX9_treeCompared_17 : decode cX9_treeCompared 17 = .ok (.getfield 12, 3) := by decide +kernel
theorem dX9_treeCompared_20 : decode cX9_treeCompared 20 = .ok (.aload 4, 2) := by decide +kernel
theorem dX9_treeCompared_22 : decode cX9_treeCompared 22 = .ok (.iload_n 3, 1) := by decide +kernel
theorem dX9_treeCompared_23 : decode cX9_treeCompared 23 = .ok (.invokevirtual 160, 3) := by decide +kernel
theorem dX9_treeCompared_26 : decode cX9_treeCompared 26 = .ok (.ireturn, 1) := by decide +kernel
set_option maxRecDepth 20000 in
theorem ggX9_neighbourhood_X9_wordOf : GoodIn wsX9_neighbourhood wsX9_wordOf := goodIn_ca (goodIn_r _ [5, 6, 7, 8, 9, 10, 11, 12, 13, 14, 15, 16, 17, 18, 19, 20, 21, 22, 23, 24, 25, 26, 27, 63, 64, 65] (by decide +kernel) (by decide +kernel)) (goodIn_sub (fun _ h => List.mem_cons_of_mem _ (List.mem_append_right _ h)) (by decide +kernel))
set_option maxRecDepth 20000 in
theorem gX9_neighbourhood_X9_wordOf : GoodIn wsX9_neighbourhood (va_wsS RX9 49 yX9_wordOf wsX9_wordOf) := goodIn_app (goodIn_of _ (by decide +kernel)) ggX9_neighbourhood_X9_wordOf
set_option maxRecDepth 20000 in
theorem ggX9_neighbourhood_X9_checkWithin : GoodIn wsX9_neighbourhood wsX9_checkWithin := goodIn_ca (goodIn_r _ [30, 6, 7] (by decide +kernel) (by decide +kernel)) (goodIn_sub (fun _ h => List.mem_cons_of_mem _ (List.mem_append_right _ h)) (by decide +kernel))
set_option maxRecDepth 20000 in
theorem gX9_neighbourhood_X9_checkWithin : GoodIn wsX9_neighbourhood (va_wsS RX9 53 yX9_checkWithin wsX9_checkWithin) := goodIn_app (goodIn_of _ (by decide +kernel)) ggX9_neighbourhood_X9_checkWithin
set_option maxRecDepth 20000 in
theorem ggX9_neighbourhood_X4_clear : GoodIn wsX9_neighbourhood wsX4_clear := goodIn_r _ [35, 36, 66, 67] (by decide +kernel) (by decide +kernel)
set_option maxRecDepth 20000 in
theorem gX9_neighbourhood_X4_clear : GoodIn wsX9_neighbourhood (wsV RX9 164 RX4 yX4_clear wsX4_clear) := goodIn_app (goodIn_of _ (by decide +kernel)) ggX9_neighbourhood_X4_clear
set_option maxRecDepth 20000 in
theorem ggX9_neighbourhood_X9_collectSequences : GoodIn wsX9_neighbourhood wsX9_collectSequences := goodIn_r _ [40, 1, 41, 42, 43, 34, 44, 36, 45, 46, 47, 48, 49, 50, 51, 10, 52, 57, 58, 59, 60, 61, 62, 63, 64, 65, 66, 67] (by decide +kernel) (by decide +kernel)
set_option maxRecDepth 20000 in
theorem gX9_neighbourhood_X9_collectSequences : GoodIn wsX9_neighbourhood (wsV RX9 167 RX9 yX9_collectSequences wsX9_collectSequences) := goodIn_app (goodIn_of _ (by decide +kernel)) ggX9_neighbourhood_X9_collectSequences
set_option maxRecDepth 20000 in
theorem ggX9_neighbourhood_X4_size : GoodIn wsX9_neighbourhood wsX4_size := goodIn_r _ [56, 36, 66, 67] (by decide +kernel) (by decide +kernel)
set_option maxRecDepth 20000 in
theorem gX9_neighbourhood_X4_size : GoodIn wsX9_neighbourhood (wsV RX9 170 RX4 yX4_size wsX4_size) := goodIn_app (goodIn_of _ (by decide +kernel)) ggX9_neighbourhood_X4_size
theorem dX9_neighbourhood_0 : decode cX9_neighbourhood 0 = .ok (.lload_n 1, 1) := by decide +kernel
theorem dX9_neighbourhood_1 : decode cX9_neighbourhood 1 = .ok (.invokestatic 49, 3) := by decide +kernel
theorem dX9_neighbourhood_4 : decode cX9_neighbourhood 4 = .ok (.astore 4, 2) := by decide +kernel
theorem dX9_neighbourhood_6 : decode cX9_neighbourhood 6 = .ok (.iload_n 3, 1) := by decide +kernel
theorem dX9_neighbourhood_7 : decode cX9_neighbourhood 7 = .ok (.iconst 0, 1) := by decide +kernel
theorem dX9_neighbourhood_8 : decode cX9_neighbourhood 8 = .ok (.iconst 2, 1) := by decide +kernel
theorem dX9_neighbourhood_9 : decode cX9_neighbourhood 9 = .ok (.invokestatic 53, 3) := by decide +kernel
theorem dX9_neighbourhood_12 : decode cX9_neighbourhood 12 = .ok (.aload_n 0, 1) := by decide +kernel
theorem dX9_neighbourhood_13 : decode cX9_neighbourhood 13 = .ok (.getfield 45, 3) := by decide +kernel
theorem dX9_neighbourhood_16 : decode cX9_neighbourhood 16 = .ok (.invokevirtual 164, 3) := by decide +kernel
theorem dX9_neighbourhood_19 : decode cX9_neighbourhood 19 = .ok (.aload_n 0, 1) := by decide +kernel
theorem dX9_neighbourhood_20 : decode cX9_neighbourhood 20 = .ok (.aload 4, 2) := by decide +kernel
theorem dX9_neighbourhood_22 : decode cX9_neighbourhood 22 = .ok (.iload_n 3, 1) := by decide +kernel
theorem dX9_neighbourhood_23 : decode cX9_neighbourhood 23 = .ok (.invokevirtual 167, 3) := by decide +kernel
theorem dX9_neighbourhood_26 : decode cX9_neighbourhood 26 = .ok (.aload_n 0, 1) := by decide +kernel
theorem dX9_neighbourhood_27 : decode cX9_neighbourhood 27 = .ok (.getfield 45, 3) := by decide +kernel
theorem dX9_neighbourhood_30 : decode cX9_neighbourhood 30 = .ok (.invokevirtual 170, 3) := by decide +kernel
theorem dX9_neighbourhood_33 : decode cX9_neighbourhood 33 = .ok (.ireturn, 1) := by decide +kernel
set_option maxRecDepth 20000 in
theorem ggX9_candidates_X9_wordOf : GoodIn wsX9_candidates wsX9_wordOf := goodIn_ca (goodIn_r _ [5, 6, 7, 8, 9, 10, 11, 12, 13, 14, 15, 16, 17, 18, 19, 20, 21, 22, 23, 24, 25, 26, 27, 85, 86, 87] (by decide +kernel) (by decide +kernel)) (goodIn_sub (fun _ h => List.mem_cons_of_mem _ (List.mem_append_right _ h)) (by decide +kernel))
set_option maxRecDepth 20000 in
theorem gX9_candidates_X9_wordOf : GoodIn wsX9_candidates (va_wsS RX9 49 yX9_wordOf wsX9_wordOf) := goodIn_app (goodIn_of _ (by decide +kernel)) ggX9_candidates_X9_wordOf
set_option maxRecDepth 20000 in
theorem ggX9_candidates_X9_checkWithin : GoodIn wsX9_candidates wsX9_checkWithin := goodIn_ca (goodIn_r _ [30, 6, 7] (by decide +kernel) (by decide +kernel)) (goodIn_sub (fun _ h => List.mem_cons_of_mem _ (List.mem_append_right _ h)) (by decide +kernel))
set_option maxRecDepth 20000 in
theorem gX9_candidates_X9_checkWithin : GoodIn wsX9_candidates (va_wsS RX9 53 yX9_checkWithin wsX9_checkWithin) := goodIn_app (goodIn_of _ (by decide +kernel)) ggX9_candidates_X9_checkWithin
set_option maxRecDepth 20000 in
theorem ggX9_candidates_X5_size : GoodIn wsX9_candidates wsX5_size := goodIn_r _ [35, 36, 88, 89] (by decide +kernel) (by decide +kernel)
set_option maxRecDepth 20000 in
theorem gX9_candidates_X5_size : GoodIn wsX9_candidates (wsV RX9 94 RX5 yX5_size wsX5_size) := goodIn_app (goodIn_of _ (by decide +kernel)) ggX9_candidates_X5_size
set_option maxRecDepth 20000 in
theorem ggX9_candidates_X5_at : GoodIn wsX9_candidates wsX5_at := goodIn_r _ [40, 36, 41, 88, 89] (by decide +kernel) (by decide +kernel)
set_option maxRecDepth 20000 in
theorem gX9_candidates_X5_at : GoodIn wsX9_candidates (wsV RX9 119 RX5 yX5_at wsX5_at) := goodIn_app (goodIn_of _ (by decide +kernel)) ggX9_candidates_X5_at
set_option maxRecDepth 20000 in
theorem ggX9_candidates_X9_isCandidate : GoodIn wsX9_candidates wsX9_isCandidate := goodIn_r _ [45, 46, 47, 48, 49, 50, 51, 52, 53, 54, 55, 56, 57, 58, 59, 60, 61, 62, 63, 64, 10, 65, 23, 22, 14, 66, 67, 68, 69, 70, 71, 72, 73, 74, 75, 76, 77, 78, 90, 91, 92, 93, 94, 95, 96, 97, 85, 86, 87, 79, 80, 81, 82, 83, 84, 98, 99] (by decide +kernel) (by decide +kernel)
set_option maxRecDepth 20000 in
theorem gX9_candidates_X9_isCandidate : GoodIn wsX9_candidates (wsV RX9 171 RX9 yX9_isCandidate wsX9_isCandidate) := goodIn_app (goodIn_of _ (by decide +kernel)) ggX9_candidates_X9_isCandidate
theorem dX9_candidates_0 : decode cX9_candidates 0 = .ok (.lload_n 1, 1) := by decide +kernel
theorem dX9_candidates_1 : decode cX9_candidates 1 = .ok (.invokestatic 49, 3) := by decide +kernel
theorem dX9_candidates_4 : decode cX9_candidates 4 = .ok (.astore 4, 2) := by decide +kernel
theorem dX9_candidates_6 : decode cX9_candidates 6 = .ok (.iload_n 3, 1) := by decide +kernel
theorem dX9_candidates_7 : decode cX9_candidates 7 = .ok (.iconst 0, 1) := by decide +kernel
theorem dX9_candidates_8 : decode cX9_candidates 8 = .ok (.iconst 2, 1) := by decide +kernel
theorem dX9_candidates_9 : decode cX9_candidates 9 = .ok (.invokestatic 53, 3) := by decide +kernel
theorem dX9_candidates_12 : decode cX9_candidates 12 = .ok (.iconst 0, 1) := by decide +kernel
theorem dX9_candidates_13 : decode cX9_candidates 13 = .ok (.istore 5, 2) := by decide +kernel
theorem dX9_candidates_15 : decode cX9_candidates 15 = .ok (.iconst 0, 1) := by decide +kernel
theorem dX9_candidates_16 : decode cX9_candidates 16 = .ok (.istore 6, 2) := by decide +kernel
theorem dX9_candidates_18 : decode cX9_candidates 18 = .ok (.iload 6, 2) := by decide +kernel
theorem dX9_candidates_20 : decode cX9_candidates 20 = .ok (.aload_n 0, 1) := by decide +kernel
theorem dX9_candidates_21 : decode cX9_candidates 21 = .ok (.getfield 33, 3) := by decide +kernel
theorem dX9_candidates_24 : decode cX9_candidates 24 = .ok (.invokevirtual 94, 3) := by decide +kernel
theorem dX9_candidates_27 : decode cX9_candidates 27 = .ok (.if_icmp .ge 31, 3) := by decide +kernel
theorem dX9_candidates_30 : decode cX9_candidates 30 = .ok (.aload_n 0, 1) := by decide +kernel
theorem dX9_candidates_31 : decode cX9_candidates 31 = .ok (.aload_n 0, 1) := by decide +kernel
theorem dX9_candidates_32 : decode cX9_candidates 32 = .ok (.getfield 33, 3) := by decide +kernel
theorem dX9_candidates_35 : decode cX9_candidates 35 = .ok (.iload 6, 2) := by decide +kernel
theorem dX9_candidates_37 : decode cX9_candidates 37 = .ok (.invokevirtual 119, 3) := by decide +kernel
theorem dX9_candidates_40 : decode cX9_candidates 40 = .ok (.aload 4, 2) := by decide +kernel
theorem dX9_candidates_42 : decode cX9_candidates 42 = .ok (.iload_n 3, 1) := by decide +kernel
theorem dX9_candidates_43 : decode cX9_candidates 43 = .ok (.invokevirtual 171, 3) := by decide +kernel
theorem dX9_candidates_46 : decode cX9_candidates 46 = .ok (.ifCond .eq 6, 3) := by decide +kernel
theorem dX9_candidates_49 : decode cX9_candidates 49 = .ok (.iinc 5 1, 3) := by decide +kernel
theorem dX9_candidates_52 : decode cX9_candidates 52 = .ok (.iinc 6 1, 3) := by decide +kernel
theorem dX9_candidates_55 : decode cX9_candidates 55 = .ok (.goto (-37), 3) := by decide +kernel
theorem dX9_candidates_58 : decode cX9_candidates 58 = .ok (.iload 5, 2) := by decide +kernel
theorem dX9_candidates_60 : decode cX9_candidates 60 = .ok (.ireturn, 1) := by decide +kernel
set_option maxRecDepth 20000 in
theorem ggX9_falseCandidates_X9_wordOf : GoodIn wsX9_falseCandidates wsX9_wordOf := goodIn_ca (goodIn_r _ [5, 6, 7, 8, 9, 10, 11, 12, 13, 14, 15, 16, 17, 18, 19, 20, 21, 22, 23, 24, 25, 26, 27, 104, 105, 106] (by decide +kernel) (by decide +kernel)) (goodIn_sub (fun _ h => List.mem_cons_of_mem _ (List.mem_append_right _ h)) (by decide +kernel))
set_option maxRecDepth 20000 in
theorem gX9_falseCandidates_X9_wordOf : GoodIn wsX9_falseCandidates (va_wsS RX9 49 yX9_wordOf wsX9_wordOf) := goodIn_app (goodIn_of _ (by decide +kernel)) ggX9_falseCandidates_X9_wordOf
set_option maxRecDepth 20000 in
theorem ggX9_falseCandidates_X9_checkWithin : GoodIn wsX9_falseCandidates wsX9_checkWithin := goodIn_ca (goodIn_r _ [30, 6, 7] (by decide +kernel) (by decide +kernel)) (goodIn_sub (fun _ h => List.mem_cons_of_mem _ (List.mem_append_right _ h)) (by decide +kernel))
set_option maxRecDepth 20000 in
theorem gX9_falseCandidates_X9_checkWithin : GoodIn wsX9_falseCandidates (va_wsS RX9 53 yX9_checkWithin wsX9_checkWithin) := goodIn_app (goodIn_of _ (by decide +kernel)) ggX9_falseCandidates_X9_checkWithin
set_option maxRecDepth 20000 in
theorem ggX9_falseCandidates_X5_size : GoodIn wsX9_falseCandidates wsX5_size := goodIn_r _ [35, 36, 107, 108] (by decide +kernel) (by decide +kernel)
set_option maxRecDepth 20000 in
theorem gX9_falseCandidates_X5_size : GoodIn wsX9_falseCandidates (wsV RX9 94 RX5 yX5_size wsX5_size) := goodIn_app (goodIn_of _ (by decide +kernel)) ggX9_falseCandidates_X5_size
set_option maxRecDepth 20000 in
theorem ggX9_falseCandidates_X5_at : GoodIn wsX9_falseCandidates wsX5_at := goodIn_r _ [40, 36, 41, 107, 108] (by decide +kernel) (by decide +kernel)
set_option maxRecDepth 20000 in
theorem gX9_falseCandidates_X5_at : GoodIn wsX9_falseCandidates (wsV RX9 119 RX5 yX5_at wsX5_at) := goodIn_app (goodIn_of _ (by decide +kernel)) ggX9_falseCandidates_X5_at
set_option maxRecDepth 20000 in
theorem ggX9_falseCandidates_X9_isCandidate : GoodIn wsX9_falseCandidates wsX9_isCandidate := goodIn_r _ [45, 46, 47, 48, 49, 50, 51, 52, 53, 54, 55, 56, 57, 58, 59, 60, 61, 62, 63, 64, 10, 65, 23, 22, 14, 66, 67, 68, 69, 70, 71, 72, 73, 74, 75, 76, 77, 78, 109, 110, 111, 112, 113, 114, 115, 116, 104, 105, 106, 98, 99, 100, 101, 102, 103, 117, 118] (by decide +kernel) (by decide +kernel)
set_option maxRecDepth 20000 in
theorem gX9_falseCandidates_X9_isCandidate : GoodIn wsX9_falseCandidates (wsV RX9 171 RX9 yX9_isCandidate wsX9_isCandidate) := goodIn_app (goodIn_of _ (by decide +kernel)) ggX9_falseCandidates_X9_isCandidate
set_option maxRecDepth 20000 in
theorem ggX9_falseCandidates_X9_isCorrection : GoodIn wsX9_falseCandidates wsX9_isCorrection := goodIn_r _ [82, 50, 83, 84, 85, 54, 86, 56, 87, 88, 89, 90, 75, 76, 77, 69, 78, 71, 72, 73, 74, 62, 63, 64, 10, 65, 23, 22, 14, 91, 92, 93, 94, 95, 96, 48, 97, 66, 67, 68, 70, 98, 99, 100, 101, 102, 103, 109, 110, 111, 112, 113, 114, 115, 116, 104, 105, 106, 117, 118] (by decide +kernel) (by decide +kernel)
set_option maxRecDepth 20000 in
theorem gX9_falseCandidates_X9_isCorrection : GoodIn wsX9_falseCandidates (wsV RX9 175 RX9 yX9_isCorrection wsX9_isCorrection) := goodIn_app (goodIn_of _ (by decide +kernel)) ggX9_falseCandidates_X9_isCorrection
theorem dX9_falseCandidates_0 : decode cX9_falseCandidates 0 = .ok (.lload_n 1, 1) := by decide +kernel
theorem dX9_falseCandidates_1 : decode cX9_falseCandidates 1 = .ok (.invokestatic 49, 3) := by decide +kernel
theorem dX9_falseCandidates_4 : decode cX9_falseCandidates 4 = .ok (.astore 4, 2) := by decide +kernel
theorem dX9_falseCandidates_6 : decode cX9_falseCandidates 6 = .ok (.iload_n 3, 1) := by decide +kernel
theorem dX9_falseCandidates_7 : decode cX9_falseCandidates 7 = .ok (.iconst 0, 1) := by decide +kernel
theorem dX9_falseCandidates_8 : decode cX9_falseCandidates 8 = .ok (.iconst 2, 1) := by decide +kernel
theorem dX9_falseCandidates_9 : decode cX9_falseCandidates 9 = .ok (.invokestatic 53, 3) := by decide +kernel
theorem dX9_falseCandidates_12 : decode cX9_falseCandidates 12 = .ok (.iconst 0, 1) := by decide +kernel
theorem dX9_falseCandidates_13 : decode cX9_falseCandidates 13 = .ok (.istore 5, 2) := by decide +kernel
theorem dX9_falseCandidates_15 : decode cX9_falseCandidates 15 = .ok (.iconst 0, 1) := by decide +kernel
theorem dX9_falseCandidates_16 : decode cX9_falseCandidates 16 = .ok (.istore 6, 2) := by decide +kernel
theorem dX9_falseCandidates_18 : decode cX9_falseCandidates 18 = .ok (.iload 6, 2) := by decide +kernel
theorem dX9_falseCandidates_20 : decode cX9_falseCandidates 20 = .ok (.aload_n 0, 1) := by decide +kernel
theorem dX9_falseCandidates_21 : decode cX9_falseCandidates 21 = .ok (.getfield 33, 3) := by decide +kernel
theorem dX9_falseCandidates_24 : decode cX9_falseCandidates 24 = .ok (.invokevirtual 94, 3) := by decide +kernel
theorem dX9_falseCandidates_27 : decode cX9_falseCandidates 27 = .ok (.if_icmp .ge 47, 3) := by decide +kernel
theorem dX9_falseCandidates_30 : decode cX9_falseCandidates 30 = .ok (.aload_n 0, 1) := by decide +kernel
theorem dX9_falseCandidates_31 : decode cX9_falseCandidates 31 = .ok (.getfield 33, 3) := by decide +kernel
theorem dX9_falseCandidates_34 : decode cX9_falseCandidates 34 = .ok (.iload 6, 2) := by decide +kernel
theorem dX9_falseCandidates_36 : decode cX9_falseCandidates 36 = .ok (.invokevirtual 119, 3) := by decide +kernel
theorem dX9_falseCandidates_39 : decode cX9_falseCandidates 39 = .ok (.astore 7, 2) := by decide +kernel
theorem dX9_falseCandidates_41 : decode cX9_falseCandidates 41 = .ok (.aload_n 0, 1) := by decide +kernel
theorem dX9_falseCandidates_42 : decode cX9_falseCandidates 42 = .ok (.aload 7, 2) := by decide +kernel
theorem dX9_falseCandidates_44 : decode cX9_falseCandidates 44 = .ok (.aload 4, 2) := by decide +kernel
theorem dX9_falseCandidates_46 : decode cX9_falseCandidates 46 = .ok (.iload_n 3, 1) := by decide +kernel
theorem dX9_falseCandidates_47 : decode cX9_falseCandidates 47 = .ok (.invokevirtual 171, 3) := by decide +kernel
theorem dX9_falseCandidates_50 : decode cX9_falseCandidates 50 = .ok (.ifCond .eq 18, 3) := by decide +kernel
theorem dX9_falseCandidates_53 : decode cX9_falseCandidates 53 = .ok (.aload_n 0, 1) := by decide +kernel
theorem dX9_falseCandidates_54 : decode cX9_falseCandidates 54 = .ok (.aload 7, 2) := by decide +kernel
theorem dX9_falseCandidates_56 : decode cX9_falseCandidates 56 = .ok (.aload 4, 2) := by decide +kernel
theorem dX9_falseCandidates_58 : decode cX9_falseCandidates 58 = .ok (.iload_n 3, 1) := by decide +kernel
theorem dX9_falseCandidates_59 : decode cX9_falseCandidates 59 = .ok (.invokevirtual 175, 3) := by decide +kernel
theorem dX9_falseCandidates_62 : decode cX9_falseCandidates 62 = .ok (.ifCond .ne 6, 3) := by decide +kernel
theorem dX9_falseCandidates_65 : decode cX9_falseCandidates 65 = .ok (.iinc 5 1, 3) := by decide +kernel
theorem dX9_falseCandidates_68 : decode cX9_falseCandidates 68 = .ok (.iinc 6 1, 3) := by decide +kernel
theorem dX9_falseCandidates_71 : decode cX9_falseCandidates 71 = .ok (.goto (-53), 3) := by decide +kernel
theorem dX9_falseCandidates_74 : decode cX9_falseCandidates 74 = .ok (.iload 5, 2) := by decide +kernel
theorem dX9_falseCandidates_76 : decode cX9_falseCandidates 76 = .ok (.ireturn, 1) := by decide +kernel
set_option maxRecDepth 20000 in
theorem ggX9_wordOf_X8_isSpelledBy : GoodIn wsX9_wordOf wsX8_isSpelledBy := goodIn_r _ [8, 9, 10] (by decide +kernel) (by decide +kernel)
set_option maxRecDepth 20000 in
theorem gX9_wordOf_X8_isSpelledBy : GoodIn wsX9_wordOf (va_wsS RX9 178 yX8_isSpelledBy wsX8_isSpelledBy) := goodIn_app (goodIn_of _ (by decide +kernel)) ggX9_wordOf_X8_isSpelledBy
set_option maxRecDepth 20000 in
theorem ggX9_wordOf_X8_init : GoodIn wsX9_wordOf wsX8_init := goodIn_r _ [13, 14, 15, 16, 17, 18, 19, 20, 21, 5, 22, 23, 24, 25] (by decide +kernel) (by decide +kernel)
set_option maxRecDepth 20000 in
theorem gX9_wordOf_X8_init : GoodIn wsX9_wordOf (wsX8_init) := ggX9_wordOf_X8_init
theorem dX9_wordOf_0 : decode cX9_wordOf 0 = .ok (.lload_n 0, 1) := by decide +kernel
theorem dX9_wordOf_1 : decode cX9_wordOf 1 = .ok (.invokestatic 178, 3) := by decide +kernel
theorem dX9_wordOf_4 : decode cX9_wordOf 4 = .ok (.ifCond .ne 13, 3) := by decide +kernel
theorem dX9_wordOf_7 : decode cX9_wordOf 7 = .ok (.new 182, 3) := by decide +kernel
theorem dX9_wordOf_10 : decode cX9_wordOf 10 = .ok (.dup, 1) := by decide +kernel
theorem dX9_wordOf_11 : decode cX9_wordOf 11 = .ok (.ldc 184, 2) := by decide +kernel
theorem dX9_wordOf_13 : decode cX9_wordOf 13 = .ok (.invokespecial 186, 3) := by decide +kernel
theorem dX9_wordOf_16 : decode cX9_wordOf 16 = .ok (.athrow, 1) := by decide +kernel
theorem dX9_wordOf_17 : decode cX9_wordOf 17 = .ok (.new 155, 3) := by decide +kernel
theorem dX9_wordOf_20 : decode cX9_wordOf 20 = .ok (.dup, 1) := by decide +kernel
theorem dX9_wordOf_21 : decode cX9_wordOf 21 = .ok (.lload_n 0, 1) := by decide +kernel
theorem dX9_wordOf_22 : decode cX9_wordOf 22 = .ok (.invokespecial 187, 3) := by decide +kernel
theorem dX9_wordOf_25 : decode cX9_wordOf 25 = .ok (.areturn, 1) := by decide +kernel
theorem dX9_checkWithin_0 : decode cX9_checkWithin 0 = .ok (.iload_n 0, 1) := by decide +kernel
theorem dX9_checkWithin_1 : decode cX9_checkWithin 1 = .ok (.iload_n 1, 1) := by decide +kernel
theorem dX9_checkWithin_2 : decode cX9_checkWithin 2 = .ok (.if_icmp .lt 8, 3) := by decide +kernel
theorem dX9_checkWithin_5 : decode cX9_checkWithin 5 = .ok (.iload_n 0, 1) := by decide +kernel
theorem dX9_checkWithin_6 : decode cX9_checkWithin 6 = .ok (.iload_n 2, 1) := by decide +kernel
theorem dX9_checkWithin_7 : decode cX9_checkWithin 7 = .ok (.if_icmp .le 13, 3) := by decide +kernel
theorem dX9_checkWithin_10 : decode cX9_checkWithin 10 = .ok (.new 182, 3) := by decide +kernel
theorem dX9_checkWithin_13 : decode cX9_checkWithin 13 = .ok (.dup, 1) := by decide +kernel
theorem dX9_checkWithin_14 : decode cX9_checkWithin 14 = .ok (.ldc 190, 2) := by decide +kernel
theorem dX9_checkWithin_16 : decode cX9_checkWithin 16 = .ok (.invokespecial 186, 3) := by decide +kernel
theorem dX9_checkWithin_19 : decode cX9_checkWithin 19 = .ok (.athrow, 1) := by decide +kernel
theorem dX9_checkWithin_20 : decode cX9_checkWithin 20 = .ok (.return_, 1) := by decide +kernel
set_option maxRecDepth 20000 in
theorem ggX9_numberAt_X5_at : GoodIn wsX9_numberAt wsX5_at := goodIn_r _ [7, 8, 9, 21, 22] (by decide +kernel) (by decide +kernel)
set_option maxRecDepth 20000 in
theorem gX9_numberAt_X5_at : GoodIn wsX9_numberAt (wsV RX9 119 RX5 yX5_at wsX5_at) := goodIn_app (goodIn_of _ (by decide +kernel)) ggX9_numberAt_X5_at
theorem dX9_numberAt_0 : decode cX9_numberAt 0 = .ok (.aload_n 0, 1) := by decide +kernel
theorem dX9_numberAt_1 : decode cX9_numberAt 1 = .ok (.iload_n 1, 1) := by decide +kernel
theorem dX9_numberAt_2 : decode cX9_numberAt 2 = .ok (.invokevirtual 119, 3) := by decide +kernel
theorem dX9_numberAt_5 : decode cX9_numberAt 5 = .ok (.astore_n 2, 1) := by decide +kernel
theorem dX9_numberAt_6 : decode cX9_numberAt 6 = .ok (.aload_n 2, 1) := by decide +kernel
theorem dX9_numberAt_7 : decode cX9_numberAt 7 = .ok (.ifnonnull 13, 3) := by decide +kernel
theorem dX9_numberAt_10 : decode cX9_numberAt 10 = .ok (.new 192, 3) := by decide +kernel
theorem dX9_numberAt_13 : decode cX9_numberAt 13 = .ok (.dup, 1) := by decide +kernel
theorem dX9_numberAt_14 : decode cX9_numberAt 14 = .ok (.ldc 194, 2) := by decide +kernel
theorem dX9_numberAt_16 : decode cX9_numberAt 16 = .ok (.invokespecial 196, 3) := by decide +kernel
theorem dX9_numberAt_19 : decode cX9_numberAt 19 = .ok (.athrow, 1) := by decide +kernel
theorem dX9_numberAt_20 : decode cX9_numberAt 20 = .ok (.aload_n 2, 1) := by decide +kernel
theorem dX9_numberAt_21 : decode cX9_numberAt 21 = .ok (.getfield 123, 3) := by decide +kernel
theorem dX9_numberAt_24 : decode cX9_numberAt 24 = .ok (.getfield 154, 3) := by decide +kernel
theorem dX9_numberAt_27 : decode cX9_numberAt 27 = .ok (.lreturn, 1) := by decide +kernel
set_option maxRecDepth 20000 in
theorem ggX9_rank_X5_clear : GoodIn wsX9_rank wsX5_clear := goodIn_r _ [8, 9, 124, 125] (by decide +kernel) (by decide +kernel)
set_option maxRecDepth 20000 in
theorem gX9_rank_X5_clear : GoodIn wsX9_rank (wsV RX9 197 RX5 yX5_clear wsX5_clear) := goodIn_app (goodIn_of _ (by decide +kernel)) ggX9_rank_X5_clear
set_option maxRecDepth 20000 in
theorem ggX9_rank_X5_size : GoodIn wsX9_rank wsX5_size := goodIn_r _ [13, 9, 124, 125] (by decide +kernel) (by decide +kernel)
set_option maxRecDepth 20000 in
theorem gX9_rank_X5_size : GoodIn wsX9_rank (wsV RX9 94 RX5 yX5_size wsX5_size) := goodIn_app (goodIn_of _ (by decide +kernel)) ggX9_rank_X5_size
set_option maxRecDepth 20000 in
theorem ggX9_rank_X5_at : GoodIn wsX9_rank wsX5_at := goodIn_r _ [17, 9, 18, 124, 125] (by decide +kernel) (by decide +kernel)
set_option maxRecDepth 20000 in
theorem gX9_rank_X5_at : GoodIn wsX9_rank (wsV RX9 119 RX5 yX5_at wsX5_at) := goodIn_app (goodIn_of _ (by decide +kernel)) ggX9_rank_X5_at
set_option maxRecDepth 20000 in
theorem ggX9_rank_X9_isCorrection : GoodIn wsX9_rank wsX9_isCorrection := goodIn_r _ [23, 3, 24, 25, 26, 27, 28, 29, 30, 31, 32, 33, 34, 35, 36, 37, 38, 39, 40, 41, 42, 43, 44, 45, 46, 47, 48, 49, 50, 51, 52, 53, 54, 55, 56, 57, 58, 59, 60, 61, 62, 110, 111, 112, 113, 114, 115, 116, 117, 118, 119, 120, 121, 122, 123, 126, 127, 128, 129, 130] (by decide +kernel) (by decide +kernel)
set_option maxRecDepth 20000 in
theorem gX9_rank_X9_isCorrection : GoodIn wsX9_rank (wsV RX9 175 RX9 yX9_isCorrection wsX9_isCorrection) := goodIn_app (goodIn_of _ (by decide +kernel)) ggX9_rank_X9_isCorrection
set_option maxRecDepth 20000 in
theorem ggX9_rank_X1_cheapest : GoodIn wsX9_rank wsX1_cheapest := goodIn_r _ [66, 29, 67, 68, 69, 27, 70, 55, 56, 57, 58, 59, 60, 61, 37, 62, 39, 40, 41, 42, 71, 72, 73, 43, 44, 45, 46, 47, 48, 49, 50, 74, 75, 76, 77, 78, 79, 80, 81, 82, 83, 84, 85, 86, 87, 88, 34, 35, 36, 38, 126, 127, 128, 129, 130] (by decide +kernel) (by decide +kernel)
set_option maxRecDepth 20000 in
theorem gX9_rank_X1_cheapest : GoodIn wsX9_rank (wsV RX9 106 RX1 yX1_cheapest wsX1_cheapest) := goodIn_app (goodIn_of _ (by decide +kernel)) ggX9_rank_X1_cheapest
set_option maxRecDepth 20000 in
theorem ggX9_rank_X5_insertByRank : GoodIn wsX9_rank wsX5_insertByRank := goodIn_r _ [92, 9, 93, 15, 16, 7, 17, 18, 94, 95, 96, 97, 98, 99, 100, 101, 102, 103, 104, 105, 106, 107, 108, 109, 124, 125, 116, 117, 118, 119, 120, 121, 122, 123, 126, 127, 128] (by decide +kernel) (by decide +kernel)
set_option maxRecDepth 20000 in
theorem gX9_rank_X5_insertByRank : GoodIn wsX9_rank (wsV RX9 201 RX5 yX5_insertByRank wsX5_insertByRank) := goodIn_app (goodIn_of _ (by decide +kernel)) ggX9_rank_X5_insertByRank
theorem dX9_rank_0 : decode cX9_rank 0 = .ok (.aload_n 0, 1) := by decide +kernel
theorem dX9_rank_1 : decode cX9_rank 1 = .ok (.getfield 37, 3) := by decide +kernel
theorem dX9_rank_4 : decode cX9_rank 4 = .ok (.invokevirtual 197, 3) := by decide +kernel
theorem dX9_rank_7 : decode cX9_rank 7 = .ok (.iconst 0, 1) := by decide +kernel
theorem dX9_rank_8 : decode cX9_rank 8 = .ok (.istore_n 3, 1) := by decide +kernel
theorem dX9_rank_9 : decode cX9_rank 9 = .ok (.iload_n 3, 1) := by decide +kernel
theorem dX9_rank_10 : decode cX9_rank 10 = .ok (.aload_n 0, 1) := by decide +kernel
theorem dX9_rank_11 : decode cX9_rank 11 = .ok (.getfield 33, 3) := by decide +kernel
theorem dX9_rank_14 : decode cX9_rank 14 = .ok (.invokevirtual 94, 3) := by decide +kernel
theorem dX9_rank_17 : decode cX9_rank 17 = .ok (.if_icmp .ge 62, 3) := by decide +kernel
theorem dX9_rank_20 : decode cX9_rank 20 = .ok (.aload_n 0, 1) := by decide +kernel
theorem dX9_rank_21 : decode cX9_rank 21 = .ok (.getfield 33, 3) := by decide +kernel
theorem dX9_rank_24 : decode cX9_rank 24 = .ok (.iload_n 3, 1) := by decide +kernel
theorem dX9_rank_25 : decode cX9_rank 25 = .ok (.invokevirtual 119, 3) := by decide +kernel
theorem dX9_rank_28 : decode cX9_rank 28 = .ok (.astore 4, 2) := by decide +kernel
theorem dX9_rank_30 : decode cX9_rank 30 = .ok (.aload 4, 2) := by decide +kernel
theorem dX9_rank_32 : decode cX9_rank 32 = .ok (.ifnull 41, 3) := by decide +kernel
theorem dX9_rank_35 : decode cX9_rank 35 = .ok (.aload_n 0, 1) := by decide +kernel
theorem dX9_rank_36 : decode cX9_rank 36 = .ok (.aload 4, 2) := by decide +kernel
theorem dX9_rank_38 : decode cX9_rank 38 = .ok (.aload_n 1, 1) := by decide +kernel
theorem dX9_rank_39 : decode cX9_rank 39 = .ok (.iload_n 2, 1) := by decide +kernel
theorem dX9_rank_40 : decode cX9_rank 40 = .ok (.invokevirtual 175, 3) := by decide +kernel
theorem dX9_rank_43 : decode cX9_rank 43 = .ok (.ifCond .eq 30, 3) := by decide +kernel
theorem dX9_rank_46 : decode cX9_rank 46 = .ok (.aload 4, 2) := by decide +kernel
theorem dX9_rank_48 : decode cX9_rank 48 = .ok (.aload_n 0, 1) := by decide +kernel
theorem dX9_rank_49 : decode cX9_rank 49 = .ok (.getfield 12, 3) := by decide +kernel
theorem dX9_rank_52 : decode cX9_rank 52 = .ok (.aload_n 1, 1) := by decide +kernel
theorem dX9_rank_53 : decode cX9_rank 53 = .ok (.aload 4, 2) := by decide +kernel
theorem dX9_rank_55 : decode cX9_rank 55 = .ok (.getfield 123, 3) := by decide +kernel
theorem dX9_rank_58 : decode cX9_rank 58 = .ok (.invokevirtual 106, 3) := by decide +kernel
theorem dX9_rank_61 : decode cX9_rank 61 = .ok (.putfield 198, 3) := by decide +kernel
theorem dX9_rank_64 : decode cX9_rank 64 = .ok (.aload_n 0, 1) := by decide +kernel
theorem dX9_rank_65 : decode cX9_rank 65 = .ok (.getfield 37, 3) := by decide +kernel
theorem dX9_rank_68 : decode cX9_rank 68 = .ok (.aload 4, 2) := by decide +kernel
theorem dX9_rank_70 : decode cX9_rank 70 = .ok (.invokevirtual 201, 3) := by decide +kernel
theorem dX9_rank_73 : decode cX9_rank 73 = .ok (.iinc 3 1, 3) := by decide +kernel
theorem dX9_rank_76 : decode cX9_rank 76 = .ok (.goto (-67), 3) := by decide +kernel
theorem dX9_rank_79 : decode cX9_rank 79 = .ok (.return_, 1) := by decide +kernel
set_option maxRecDepth 20000 in
theorem ggX9_isCorrection_X1_lettersApart : GoodIn wsX9_isCorrection wsX1_lettersApart := goodIn_r _ [6, 7, 8, 9, 10, 5, 11, 12, 13, 14, 15, 16, 17, 18, 19, 20, 21, 22, 23, 24, 25, 26, 27, 28, 29, 30, 31, 32, 33, 34, 35, 36, 37, 38, 39, 40, 55, 56, 57, 58, 59] (by decide +kernel) (by decide +kernel)
set_option maxRecDepth 20000 in
theorem gX9_isCorrection_X1_lettersApart : GoodIn wsX9_isCorrection (wsV RX9 102 RX1 yX1_lettersApart wsX1_lettersApart) := goodIn_app (goodIn_of _ (by decide +kernel)) ggX9_isCorrection_X1_lettersApart
theorem dX9_isCorrection_0 : decode cX9_isCorrection 0 = .ok (.aload_n 1, 1) := by decide +kernel
theorem dX9_isCorrection_1 : decode cX9_isCorrection 1 = .ok (.ifnull 23, 3) := by decide +kernel
theorem dX9_isCorrection_4 : decode cX9_isCorrection 4 = .ok (.aload_n 0, 1) := by decide +kernel
theorem dX9_isCorrection_5 : decode cX9_isCorrection 5 = .ok (.getfield 12, 3) := by decide +kernel
theorem dX9_isCorrection_8 : decode cX9_isCorrection 8 = .ok (.aload_n 1, 1) := by decide +kernel
theorem dX9_isCorrection_9 : decode cX9_isCorrection 9 = .ok (.getfield 123, 3) := by decide +kernel
theorem dX9_isCorrection_12 : decode cX9_isCorrection 12 = .ok (.aload_n 2, 1) := by decide +kernel
theorem dX9_isCorrection_13 : decode cX9_isCorrection 13 = .ok (.invokevirtual 102, 3) := by decide +kernel
theorem dX9_isCorrection_16 : decode cX9_isCorrection 16 = .ok (.iload_n 3, 1) := by decide +kernel
theorem dX9_isCorrection_17 : decode cX9_isCorrection 17 = .ok (.if_icmp .gt 7, 3) := by decide +kernel
theorem dX9_isCorrection_20 : decode cX9_isCorrection 20 = .ok (.iconst 1, 1) := by decide +kernel
theorem dX9_isCorrection_21 : decode cX9_isCorrection 21 = .ok (.goto 4, 3) := by decide +kernel
theorem dX9_isCorrection_24 : decode cX9_isCorrection 24 = .ok (.iconst 0, 1) := by decide +kernel
theorem dX9_isCorrection_25 : decode cX9_isCorrection 25 = .ok (.ireturn, 1) := by decide +kernel
set_option maxRecDepth 20000 in
theorem ggX9_isCandidate_X1_lettersShared : GoodIn wsX9_isCandidate wsX1_lettersShared := goodIn_r _ [10, 11, 12, 13, 14, 9, 15, 16, 2, 3, 4, 17, 18, 19, 20, 21, 22, 23, 24, 25, 26, 27, 28, 29, 30, 31, 32, 33, 34, 35, 36, 37, 46, 47, 48, 55, 56] (by decide +kernel) (by decide +kernel)
set_option maxRecDepth 20000 in
theorem gX9_isCandidate_X1_lettersShared : GoodIn wsX9_isCandidate (wsV RX9 210 RX1 yX1_lettersShared wsX1_lettersShared) := goodIn_app (goodIn_of _ (by decide +kernel)) ggX9_isCandidate_X1_lettersShared
theorem dX9_isCandidate_0 : decode cX9_isCandidate 0 = .ok (.aload_n 1, 1) := by decide +kernel
theorem dX9_isCandidate_1 : decode cX9_isCandidate 1 = .ok (.ifnonnull 5, 3) := by decide +kernel
theorem dX9_isCandidate_4 : decode cX9_isCandidate 4 = .ok (.iconst 0, 1) := by decide +kernel
theorem dX9_isCandidate_5 : decode cX9_isCandidate 5 = .ok (.ireturn, 1) := by decide +kernel
theorem dX9_isCandidate_6 : decode cX9_isCandidate 6 = .ok (.aload_n 1, 1) := by decide +kernel
theorem dX9_isCandidate_7 : decode cX9_isCandidate 7 = .ok (.getfield 123, 3) := by decide +kernel
theorem dX9_isCandidate_10 : decode cX9_isCandidate 10 = .ok (.getfield 204, 3) := by decide +kernel
theorem dX9_isCandidate_13 : decode cX9_isCandidate 13 = .ok (.aload_n 2, 1) := by decide +kernel
theorem dX9_isCandidate_14 : decode cX9_isCandidate 14 = .ok (.getfield 204, 3) := by decide +kernel
theorem dX9_isCandidate_17 : decode cX9_isCandidate 17 = .ok (.invokestatic 207, 3) := by decide +kernel
theorem dX9_isCandidate_20 : decode cX9_isCandidate 20 = .ok (.istore 4, 2) := by decide +kernel
theorem dX9_isCandidate_22 : decode cX9_isCandidate 22 = .ok (.iload 4, 2) := by decide +kernel
theorem dX9_isCandidate_24 : decode cX9_isCandidate 24 = .ok (.aload_n 0, 1) := by decide +kernel
theorem dX9_isCandidate_25 : decode cX9_isCandidate 25 = .ok (.getfield 12, 3) := by decide +kernel
theorem dX9_isCandidate_28 : decode cX9_isCandidate 28 = .ok (.aload_n 1, 1) := by decide +kernel
theorem dX9_isCandidate_29 : decode cX9_isCandidate 29 = .ok (.getfield 123, 3) := by decide +kernel
theorem dX9_isCandidate_32 : decode cX9_isCandidate 32 = .ok (.aload_n 2, 1) := by decide +kernel
theorem dX9_isCandidate_33 : decode cX9_isCandidate 33 = .ok (.invokevirtual 210, 3) := by decide +kernel
theorem dX9_isCandidate_36 : decode cX9_isCandidate 36 = .ok (.isub, 1) := by decide +kernel
theorem dX9_isCandidate_37 : decode cX9_isCandidate 37 = .ok (.iload_n 3, 1) := by decide +kernel
theorem dX9_isCandidate_38 : decode cX9_isCandidate 38 = .ok (.if_icmp .gt 7, 3) := by decide +kernel
theorem dX9_isCandidate_41 : decode cX9_isCandidate 41 = .ok (.iconst 1, 1) := by decide +kernel
theorem dX9_isCandidate_42 : decode cX9_isCandidate 42 = .ok (.goto 4, 3) := by decide +kernel
theorem dX9_isCandidate_45 : decode cX9_isCandidate 45 = .ok (.iconst 0, 1) := by decide +kernel
theorem dX9_isCandidate_46 : decode cX9_isCandidate 46 = .ok (.ireturn, 1) := by decide +kernel
set_option maxRecDepth 20000 in
theorem ggX9_collectSequences_X4_put : GoodIn wsX9_collectSequences wsX4_put := goodIn_r _ [6, 7, 8, 9, 10, 11, 5, 12, 26, 27] (by decide +kernel) (by decide +kernel)
set_option maxRecDepth 20000 in
theorem gX9_collectSequences_X4_put : GoodIn wsX9_collectSequences (wsV RX9 213 RX4 yX4_put wsX4_put) := goodIn_app (goodIn_of _ (by decide +kernel)) ggX9_collectSequences_X4_put
set_option maxRecDepth 20000 in
theorem ggX9_collectSequences_X8_without : GoodIn wsX9_collectSequences wsX8_without := goodIn_r _ [16] (by decide +kernel) (by decide +kernel)
set_option maxRecDepth 20000 in
theorem gX9_collectSequences_X8_without : GoodIn wsX9_collectSequences (va_wsS RX9 216 yX8_without wsX8_without) := goodIn_app (goodIn_of _ (by decide +kernel)) ggX9_collectSequences_X8_without
theorem dX9_collectSequences_0 : decode cX9_collectSequences 0 = .ok (.aload_n 0, 1) := by decide +kernel
theorem dX9_collectSequences_1 : decode cX9_collectSequences 1 = .ok (.getfield 45, 3) := by decide +kernel
theorem dX9_collectSequences_4 : decode cX9_collectSequences 4 = .ok (.aload_n 1, 1) := by decide +kernel
theorem dX9_collectSequences_5 : decode cX9_collectSequences 5 = .ok (.getfield 154, 3) := by decide +kernel
theorem dX9_collectSequences_8 : decode cX9_collectSequences 8 = .ok (.invokevirtual 213, 3) := by decide +kernel
theorem dX9_collectSequences_11 : decode cX9_collectSequences 11 = .ok (.iconst 0, 1) := by decide +kernel
theorem dX9_collectSequences_12 : decode cX9_collectSequences 12 = .ok (.istore_n 3, 1) := by decide +kernel
theorem dX9_collectSequences_13 : decode cX9_collectSequences 13 = .ok (.iload_n 2, 1) := by decide +kernel
theorem dX9_collectSequences_14 : decode cX9_collectSequences 14 = .ok (.iconst 1, 1) := by decide +kernel
theorem dX9_collectSequences_15 : decode cX9_collectSequences 15 = .ok (.if_icmp .lt 70, 3) := by decide +kernel
theorem dX9_collectSequences_18 : decode cX9_collectSequences 18 = .ok (.iload_n 3, 1) := by decide +kernel
theorem dX9_collectSequences_19 : decode cX9_collectSequences 19 = .ok (.aload_n 1, 1) := by decide +kernel
theorem dX9_collectSequences_20 : decode cX9_collectSequences 20 = .ok (.getfield 204, 3) := by decide +kernel
theorem dX9_collectSequences_23 : decode cX9_collectSequences 23 = .ok (.if_icmp .ge 62, 3) := by decide +kernel
theorem dX9_collectSequences_26 : decode cX9_collectSequences 26 = .ok (.aload_n 1, 1) := by decide +kernel
theorem dX9_collectSequences_27 : decode cX9_collectSequences 27 = .ok (.getfield 154, 3) := by decide +kernel
theorem dX9_collectSequences_30 : decode cX9_collectSequences 30 = .ok (.iload_n 3, 1) := by decide +kernel
theorem dX9_collectSequences_31 : decode cX9_collectSequences 31 = .ok (.invokestatic 216, 3) := by decide +kernel
theorem dX9_collectSequences_34 : decode cX9_collectSequences 34 = .ok (.lstore 4, 2) := by decide +kernel
theorem dX9_collectSequences_36 : decode cX9_collectSequences 36 = .ok (.aload_n 0, 1) := by decide +kernel
theorem dX9_collectSequences_37 : decode cX9_collectSequences 37 = .ok (.getfield 45, 3) := by decide +kernel
theorem dX9_collectSequences_40 : decode cX9_collectSequences 40 = .ok (.lload 4, 2) := by decide +kernel
theorem dX9_collectSequences_42 : decode cX9_collectSequences 42 = .ok (.invokevirtual 213, 3) := by decide +kernel
theorem dX9_collectSequences_45 : decode cX9_collectSequences 45 = .ok (.iconst 0, 1) := by decide +kernel
theorem dX9_collectSequences_46 : decode cX9_collectSequences 46 = .ok (.istore 6, 2) := by decide +kernel
theorem dX9_collectSequences_48 : decode cX9_collectSequences 48 = .ok (.iload_n 2, 1) := by decide +kernel
theorem dX9_collectSequences_49 : decode cX9_collectSequences 49 = .ok (.iconst 2, 1) := by decide +kernel
theorem dX9_collectSequences_50 : decode cX9_collectSequences 50 = .ok (.if_icmp .lt 29, 3) := by decide +kernel
theorem dX9_collectSequences_53 : decode cX9_collectSequences 53 = .ok (.iload 6, 2) := by decide +kernel
theorem dX9_collectSequences_55 : decode cX9_collectSequences 55 = .ok (.iload_n 3, 1) := by decide +kernel
theorem dX9_collectSequences_56 : decode cX9_collectSequences 56 = .ok (.if_icmp .ge 23, 3) := by decide +kernel
theorem dX9_collectSequences_59 : decode cX9_collectSequences 59 = .ok (.aload_n 0, 1) := by decide +kernel
theorem dX9_collectSequences_60 : decode cX9_collectSequences 60 = .ok (.getfield 45, 3) := by decide +kernel
theorem dX9_collectSequences_63 : decode cX9_collectSequences 63 = .ok (.lload 4, 2) := by decide +kernel
theorem dX9_collectSequences_65 : decode cX9_collectSequences 65 = .ok (.iload 6, 2) := by decide +kernel
theorem dX9_collectSequences_67 : decode cX9_collectSequences 67 = .ok (.invokestatic 216, 3) := by decide +kernel
theorem dX9_collectSequences_70 : decode cX9_collectSequences 70 = .ok (.invokevirtual 213, 3) := by decide +kernel
theorem dX9_collectSequences_73 : decode cX9_collectSequences 73 = .ok (.iinc 6 1, 3) := by decide +kernel
theorem dX9_collectSequences_76 : decode cX9_collectSequences 76 = .ok (.goto (-28), 3) := by decide +kernel
theorem dX9_collectSequences_79 : decode cX9_collectSequences 79 = .ok (.iinc 3 1, 3) := by decide +kernel
theorem dX9_collectSequences_82 : decode cX9_collectSequences 82 = .ok (.goto (-69), 3) := by decide +kernel
theorem dX9_collectSequences_85 : decode cX9_collectSequences 85 = .ok (.return_, 1) := by decide +kernel
theorem dJ9_abs_0f7a4_0 : decode cJ9_abs_0f7a4 0 = .ok (.iload_n 0, 1) := by decide +kernel
theorem dJ9_abs_0f7a4_1 : decode cJ9_abs_0f7a4 1 = .ok (.ifCond .ge 8, 3) := by decide +kernel
theorem dJ9_abs_0f7a4_4 : decode cJ9_abs_0f7a4 4 = .ok (.iload_n 0, 1) := by decide +kernel
theorem dJ9_abs_0f7a4_5 : decode cJ9_abs_0f7a4 5 = .ok (.ineg, 1) := by decide +kernel
theorem dJ9_abs_0f7a4_6 : decode cJ9_abs_0f7a4 6 = .ok (.goto 4, 3) := by decide +kernel
theorem dJ9_abs_0f7a4_9 : decode cJ9_abs_0f7a4 9 = .ok (.iload_n 0, 1) := by decide +kernel
theorem dJ9_abs_0f7a4_10 : decode cJ9_abs_0f7a4 10 = .ok (.ireturn, 1) := by decide +kernel
theorem dJ9_max_7cf53_0 : decode cJ9_max_7cf53 0 = .ok (.iload_n 0, 1) := by decide +kernel
theorem dJ9_max_7cf53_1 : decode cJ9_max_7cf53 1 = .ok (.iload_n 1, 1) := by decide +kernel
theorem dJ9_max_7cf53_2 : decode cJ9_max_7cf53 2 = .ok (.if_icmp .lt 7, 3) := by decide +kernel
theorem dJ9_max_7cf53_5 : decode cJ9_max_7cf53 5 = .ok (.iload_n 0, 1) := by decide +kernel
theorem dJ9_max_7cf53_6 : decode cJ9_max_7cf53 6 = .ok (.goto 4, 3) := by decide +kernel
theorem dJ9_max_7cf53_9 : decode cJ9_max_7cf53 9 = .ok (.iload_n 1, 1) := by decide +kernel
theorem dJ9_max_7cf53_10 : decode cJ9_max_7cf53 10 = .ok (.ireturn, 1) := by decide +kernel
theorem dJ9_min_7cf53_0 : decode cJ9_min_7cf53 0 = .ok (.iload_n 0, 1) := by decide +kernel
theorem dJ9_min_7cf53_1 : decode cJ9_min_7cf53 1 = .ok (.iload_n 1, 1) := by decide +kernel
theorem dJ9_min_7cf53_2 : decode cJ9_min_7cf53 2 = .ok (.if_icmp .gt 7, 3) := by decide +kernel
theorem dJ9_min_7cf53_5 : decode cJ9_min_7cf53 5 = .ok (.iload_n 0, 1) := by decide +kernel
theorem dJ9_min_7cf53_6 : decode cJ9_min_7cf53 6 = .ok (.goto 4, 3) := by decide +kernel
theorem dJ9_min_7cf53_9 : decode cJ9_min_7cf53 9 = .ok (.iload_n 1, 1) := by decide +kernel
theorem dJ9_min_7cf53_10 : decode cJ9_min_7cf53 10 = .ok (.ireturn, 1) := by decide +kernel
