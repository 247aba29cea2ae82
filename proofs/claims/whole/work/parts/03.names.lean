theorem inlX0 : ∀ w ∈ wsX00, w ∈ wsL_law := fun _ h => List.mem_append_left _ (List.mem_append_right _ h)
theorem inX0 : ∀ w ∈ wsX00, w ∈ lw_tbl := fun w h => wsL_law_in w (inlX0 w h)
theorem inlX1 : ∀ w ∈ wsX10, w ∈ wsL_law := fun _ h => List.mem_append_left _ (List.mem_append_left _ (List.mem_append_left _ (List.mem_append_right _ h)))
theorem inX1 : ∀ w ∈ wsX10, w ∈ lw_tbl := fun w h => wsL_law_in w (inlX1 w h)
theorem inlX2 : ∀ w ∈ wsX20, w ∈ wsL_law := fun _ h => List.mem_append_left _ (List.mem_append_left _ (List.mem_append_right _ h))
theorem inX2 : ∀ w ∈ wsX20, w ∈ lw_tbl := fun w h => wsL_law_in w (inlX2 w h)
theorem inJ9 : ∀ w ∈ wsJ90, w ∈ lw_tbl := by decide +kernel
theorem dX0_init_0 : decode cX0_init 0 = .ok (.aload_n 0, 1) := by decide +kernel
theorem dX0_init_1 : decode cX0_init 1 = .ok (.invokespecial 3, 3) := by decide +kernel
theorem dX0_init_4 : decode cX0_init 4 = .ok (.aload_n 0, 1) := by decide +kernel
theorem dX0_init_5 : decode cX0_init 5 = .ok (.iconst 0, 1) := by decide +kernel
theorem dX0_init_6 : decode cX0_init 6 = .ok (.putfield 11, 3) := by decide +kernel
theorem dX0_init_9 : decode cX0_init 9 = .ok (.aload_n 0, 1) := by decide +kernel
theorem dX0_init_10 : decode cX0_init 10 = .ok (.iconst 3, 1) := by decide +kernel
theorem dX0_init_11 : decode cX0_init 11 = .ok (.newarray .int, 2) := by decide +kernel
theorem dX0_init_13 : decode cX0_init 13 = .ok (.dup, 1) := by decide +kernel
theorem dX0_init_14 : decode cX0_init 14 = .ok (.iconst 0, 1) := by decide +kernel
theorem dX0_init_15 : decode cX0_init 15 = .ok (.iconst 0, 1) := by decide +kernel
theorem dX0_init_16 : decode cX0_init 16 = .ok (.iastore, 1) := by decide +kernel
theorem dX0_init_17 : decode cX0_init 17 = .ok (.dup, 1) := by decide +kernel
theorem dX0_init_18 : decode cX0_init 18 = .ok (.iconst 1, 1) := by decide +kernel
theorem dX0_init_19 : decode cX0_init 19 = .ok (.iconst 0, 1) := by decide +kernel
theorem dX0_init_20 : decode cX0_init 20 = .ok (.iastore, 1) := by decide +kernel
theorem dX0_init_21 : decode cX0_init 21 = .ok (.dup, 1) := by decide +kernel
theorem dX0_init_22 : decode cX0_init 22 = .ok (.iconst 2, 1) := by decide +kernel
theorem dX0_init_23 : decode cX0_init 23 = .ok (.iconst 0, 1) := by decide +kernel
theorem dX0_init_24 : decode cX0_init 24 = .ok (.iastore, 1) := by decide +kernel
theorem dX0_init_25 : decode cX0_init 25 = .ok (.putfield 15, 3) := by decide +kernel
theorem dX0_init_28 : decode cX0_init 28 = .ok (.aload_n 0, 1) := by decide +kernel
theorem dX0_init_29 : decode cX0_init 29 = .ok (.iconst 3, 1) := by decide +kernel
theorem dX0_init_30 : decode cX0_init 30 = .ok (.newarray .int, 2) := by decide +kernel
theorem dX0_init_32 : decode cX0_init 32 = .ok (.dup, 1) := by decide +kernel
theorem dX0_init_33 : decode cX0_init 33 = .ok (.iconst 0, 1) := by decide +kernel
theorem dX0_init_34 : decode cX0_init 34 = .ok (.bipush 9, 2) := by decide +kernel
theorem dX0_init_36 : decode cX0_init 36 = .ok (.iastore, 1) := by decide +kernel
theorem dX0_init_37 : decode cX0_init 37 = .ok (.dup, 1) := by decide +kernel
theorem dX0_init_38 : decode cX0_init 38 = .ok (.iconst 1, 1) := by decide +kernel
theorem dX0_init_39 : decode cX0_init 39 = .ok (.bipush 9, 2) := by decide +kernel
theorem dX0_init_41 : decode cX0_init 41 = .ok (.iastore, 1) := by decide +kernel
theorem dX0_init_42 : decode cX0_init 42 = .ok (.dup, 1) := by decide +kernel
theorem dX0_init_43 : decode cX0_init 43 = .ok (.iconst 2, 1) := by decide +kernel
theorem dX0_init_44 : decode cX0_init 44 = .ok (.sipush 9999, 3) := by decide +kernel
theorem dX0_init_47 : decode cX0_init 47 = .ok (.iastore, 1) := by decide +kernel
theorem dX0_init_48 : decode cX0_init 48 = .ok (.putfield 19, 3) := by decide +kernel
theorem dX0_init_51 : decode cX0_init 51 = .ok (.aload_n 0, 1) := by decide +kernel
theorem dX0_init_52 : decode cX0_init 52 = .ok (.iconst 3, 1) := by decide +kernel
theorem dX0_init_53 : decode cX0_init 53 = .ok (.newarray .int, 2) := by decide +kernel
theorem dX0_init_55 : decode cX0_init 55 = .ok (.dup, 1) := by decide +kernel
theorem dX0_init_56 : decode cX0_init 56 = .ok (.iconst 0, 1) := by decide +kernel
theorem dX0_init_57 : decode cX0_init 57 = .ok (.iconst 0, 1) := by decide +kernel
theorem dX0_init_58 : decode cX0_init 58 = .ok (.iastore, 1) := by decide +kernel
theorem dX0_init_59 : decode cX0_init 59 = .ok (.dup, 1) := by decide +kernel
theorem dX0_init_60 : decode cX0_init 60 = .ok (.iconst 1, 1) := by decide +kernel
theorem dX0_init_61 : decode cX0_init 61 = .ok (.iconst 1, 1) := by decide +kernel
theorem dX0_init_62 : decode cX0_init 62 = .ok (.iastore, 1) := by decide +kernel
theorem dX0_init_63 : decode cX0_init 63 = .ok (.dup, 1) := by decide +kernel
theorem dX0_init_64 : decode cX0_init 64 = .ok (.iconst 2, 1) := by decide +kernel
theorem dX0_init_65 : decode cX0_init 65 = .ok (.iconst 0, 1) := by decide +kernel
theorem dX0_init_66 : decode cX0_init 66 = .ok (.iastore, 1) := by decide +kernel
theorem dX0_init_67 : decode cX0_init 67 = .ok (.putfield 22, 3) := by decide +kernel
theorem dX0_init_70 : decode cX0_init 70 = .ok (.aload_n 0, 1) := by decide +kernel
theorem dX0_init_71 : decode cX0_init 71 = .ok (.bipush 100, 2) := by decide +kernel
theorem dX0_init_73 : decode cX0_init 73 = .ok (.newarray .int, 2) := by decide +kernel
theorem dX0_init_75 : decode cX0_init 75 = .ok (.putfield 25, 3) := by decide +kernel
theorem dX0_init_78 : decode cX0_init 78 = .ok (.aload_n 0, 1) := by decide +kernel
theorem dX0_init_79 : decode cX0_init 79 = .ok (.iconst 0, 1) := by decide +kernel
theorem dX0_init_80 : decode cX0_init 80 = .ok (.putfield 28, 3) := by decide +kernel
theorem dX0_init_83 : decode cX0_init 83 = .ok (.aload_n 0, 1) := by decide +kernel
theorem dX0_init_84 : decode cX0_init 84 = .ok (.iconst 0, 1) := by decide +kernel
theorem dX0_init_85 : decode cX0_init 85 = .ok (.putfield 31, 3) := by decide +kernel
theorem dX0_init_88 : decode cX0_init 88 = .ok (.return_, 1) := by decide +kernel
theorem dX0_isRange_0 : decode cX0_isRange 0 = .ok (.iload_n 0, 1) := by decide +kernel
theorem dX0_isRange_1 : decode cX0_isRange 1 = .ok (.ifCond .lt 30, 3) := by decide +kernel
theorem dX0_isRange_4 : decode cX0_isRange 4 = .ok (.iload_n 0, 1) := by decide +kernel
theorem dX0_isRange_5 : decode cX0_isRange 5 = .ok (.iconst 2, 1) := by decide +kernel
theorem dX0_isRange_6 : decode cX0_isRange 6 = .ok (.if_icmp .gt 25, 3) := by decide +kernel
theorem dX0_isRange_9 : decode cX0_isRange 9 = .ok (.iload_n 1, 1) := by decide +kernel
theorem dX0_isRange_10 : decode cX0_isRange 10 = .ok (.ifCond .lt 21, 3) := by decide +kernel
theorem dX0_isRange_13 : decode cX0_isRange 13 = .ok (.iload_n 1, 1) := by decide +kernel
theorem dX0_isRange_14 : decode cX0_isRange 14 = .ok (.iload_n 2, 1) := by decide +kernel
theorem dX0_isRange_15 : decode cX0_isRange 15 = .ok (.if_icmp .gt 16, 3) := by decide +kernel
theorem dX0_isRange_18 : decode cX0_isRange 18 = .ok (.iload_n 2, 1) := by decide +kernel
theorem dX0_isRange_19 : decode cX0_isRange 19 = .ok (.getstatic 34, 3) := by decide +kernel
theorem dX0_isRange_22 : decode cX0_isRange 22 = .ok (.iload_n 0, 1) := by decide +kernel
theorem dX0_isRange_23 : decode cX0_isRange 23 = .ok (.iaload, 1) := by decide +kernel
theorem dX0_isRange_24 : decode cX0_isRange 24 = .ok (.if_icmp .gt 7, 3) := by decide +kernel
theorem dX0_isRange_27 : decode cX0_isRange 27 = .ok (.iconst 1, 1) := by decide +kernel
theorem dX0_isRange_28 : decode cX0_isRange 28 = .ok (.goto 4, 3) := by decide +kernel
theorem dX0_isRange_31 : decode cX0_isRange 31 = .ok (.iconst 0, 1) := by decide +kernel
theorem dX0_isRange_32 : decode cX0_isRange 32 = .ok (.ireturn, 1) := by decide +kernel
theorem dX0_isRule_0 : decode cX0_isRule 0 = .ok (.iload_n 0, 1) := by decide +kernel
theorem dX0_isRule_1 : decode cX0_isRule 1 = .ok (.ifCond .lt 30, 3) := by decide +kernel
theorem dX0_isRule_4 : decode cX0_isRule 4 = .ok (.iload_n 0, 1) := by decide +kernel
theorem dX0_isRule_5 : decode cX0_isRule 5 = .ok (.iconst 2, 1) := by decide +kernel
theorem dX0_isRule_6 : decode cX0_isRule 6 = .ok (.if_icmp .gt 25, 3) := by decide +kernel
theorem dX0_isRule_9 : decode cX0_isRule 9 = .ok (.iload_n 1, 1) := by decide +kernel
theorem dX0_isRule_10 : decode cX0_isRule 10 = .ok (.getstatic 37, 3) := by decide +kernel
theorem dX0_isRule_13 : decode cX0_isRule 13 = .ok (.iload_n 0, 1) := by decide +kernel
theorem dX0_isRule_14 : decode cX0_isRule 14 = .ok (.iaload, 1) := by decide +kernel
theorem dX0_isRule_15 : decode cX0_isRule 15 = .ok (.if_icmp .lt 16, 3) := by decide +kernel
theorem dX0_isRule_18 : decode cX0_isRule 18 = .ok (.iload_n 1, 1) := by decide +kernel
theorem dX0_isRule_19 : decode cX0_isRule 19 = .ok (.getstatic 40, 3) := by decide +kernel
theorem dX0_isRule_22 : decode cX0_isRule 22 = .ok (.iload_n 0, 1) := by decide +kernel
theorem dX0_isRule_23 : decode cX0_isRule 23 = .ok (.iaload, 1) := by decide +kernel
theorem dX0_isRule_24 : decode cX0_isRule 24 = .ok (.if_icmp .gt 7, 3) := by decide +kernel
theorem dX0_isRule_27 : decode cX0_isRule 27 = .ok (.iconst 1, 1) := by decide +kernel
theorem dX0_isRule_28 : decode cX0_isRule 28 = .ok (.goto 4, 3) := by decide +kernel
theorem dX0_isRule_31 : decode cX0_isRule 31 = .ok (.iconst 0, 1) := by decide +kernel
theorem dX0_isRule_32 : decode cX0_isRule 32 = .ok (.ireturn, 1) := by decide +kernel
set_option maxRecDepth 20000 in
theorem ggX0_open_X0_countAnew : GoodIn wsX0_open wsX0_countAnew := goodIn_r _ [6, 7, 8, 9, 10, 11, 12, 13, 5, 14, 15, 16, 17, 18, 19, 20, 21, 22, 23, 1, 24, 25, 26, 27, 28, 29, 30, 31, 32, 33, 34, 35, 36, 37, 38] (by decide +kernel) (by decide +kernel)
set_option maxRecDepth 20000 in
theorem gX0_open_X0_countAnew : GoodIn wsX0_open (wsV RX0 43 RX0 yX0_countAnew wsX0_countAnew) := goodIn_app (goodIn_of _ (by decide +kernel)) ggX0_open_X0_countAnew
theorem dX0_open_0 : decode cX0_open 0 = .ok (.aload_n 0, 1) := by decide +kernel
theorem dX0_open_1 : decode cX0_open 1 = .ok (.iload_n 1, 1) := by decide +kernel
theorem dX0_open_2 : decode cX0_open 2 = .ok (.putfield 11, 3) := by decide +kernel
theorem dX0_open_5 : decode cX0_open 5 = .ok (.aload_n 0, 1) := by decide +kernel
theorem dX0_open_6 : decode cX0_open 6 = .ok (.invokevirtual 43, 3) := by decide +kernel
theorem dX0_open_9 : decode cX0_open 9 = .ok (.return_, 1) := by decide +kernel
set_option maxRecDepth 20000 in
theorem ggX0_setRange_X0_countAnew : GoodIn wsX0_setRange wsX0_countAnew := goodIn_r _ [7, 8, 1, 2, 9, 10, 11, 12, 6, 13, 14, 15, 16, 17, 18, 19, 20, 21, 22, 23, 24, 25, 26, 27, 28, 29, 30, 31, 32, 33, 34, 35, 36, 37, 38] (by decide +kernel) (by decide +kernel)
set_option maxRecDepth 20000 in
theorem gX0_setRange_X0_countAnew : GoodIn wsX0_setRange (wsV RX0 43 RX0 yX0_countAnew wsX0_countAnew) := goodIn_app (goodIn_of _ (by decide +kernel)) ggX0_setRange_X0_countAnew
theorem dX0_setRange_0 : decode cX0_setRange 0 = .ok (.aload_n 0, 1) := by decide +kernel
theorem dX0_setRange_1 : decode cX0_setRange 1 = .ok (.getfield 15, 3) := by decide +kernel
theorem dX0_setRange_4 : decode cX0_setRange 4 = .ok (.iload_n 1, 1) := by decide +kernel
theorem dX0_setRange_5 : decode cX0_setRange 5 = .ok (.iload_n 2, 1) := by decide +kernel
theorem dX0_setRange_6 : decode cX0_setRange 6 = .ok (.iastore, 1) := by decide +kernel
theorem dX0_setRange_7 : decode cX0_setRange 7 = .ok (.aload_n 0, 1) := by decide +kernel
theorem dX0_setRange_8 : decode cX0_setRange 8 = .ok (.getfield 19, 3) := by decide +kernel
theorem dX0_setRange_11 : decode cX0_setRange 11 = .ok (.iload_n 1, 1) := by decide +kernel
theorem dX0_setRange_12 : decode cX0_setRange 12 = .ok (.iload_n 3, 1) := by decide +kernel
theorem dX0_setRange_13 : decode cX0_setRange 13 = .ok (.iastore, 1) := by decide +kernel
theorem dX0_setRange_14 : decode cX0_setRange 14 = .ok (.aload_n 0, 1) := by decide +kernel
theorem dX0_setRange_15 : decode cX0_setRange 15 = .ok (.invokevirtual 43, 3) := by decide +kernel
theorem dX0_setRange_18 : decode cX0_setRange 18 = .ok (.return_, 1) := by decide +kernel
set_option maxRecDepth 20000 in
theorem ggX0_setRule_X0_countAnew : GoodIn wsX0_setRule wsX0_countAnew := goodIn_r _ [6, 7, 8, 9, 10, 11, 12, 13, 5, 14, 15, 16, 17, 18, 1, 19, 20, 21, 22, 23, 24, 25, 26, 27, 28, 29, 30, 31, 32, 33, 34, 35, 36, 37, 38] (by decide +kernel) (by decide +kernel)
set_option maxRecDepth 20000 in
theorem gX0_setRule_X0_countAnew : GoodIn wsX0_setRule (wsV RX0 43 RX0 yX0_countAnew wsX0_countAnew) := goodIn_app (goodIn_of _ (by decide +kernel)) ggX0_setRule_X0_countAnew
theorem dX0_setRule_0 : decode cX0_setRule 0 = .ok (.aload_n 0, 1) := by decide +kernel
theorem dX0_setRule_1 : decode cX0_setRule 1 = .ok (.getfield 22, 3) := by decide +kernel
theorem dX0_setRule_4 : decode cX0_setRule 4 = .ok (.iload_n 1, 1) := by decide +kernel
theorem dX0_setRule_5 : decode cX0_setRule 5 = .ok (.iaload, 1) := by decide +kernel
theorem dX0_setRule_6 : decode cX0_setRule 6 = .ok (.istore_n 3, 1) := by decide +kernel
theorem dX0_setRule_7 : decode cX0_setRule 7 = .ok (.aload_n 0, 1) := by decide +kernel
theorem dX0_setRule_8 : decode cX0_setRule 8 = .ok (.getfield 22, 3) := by decide +kernel
theorem dX0_setRule_11 : decode cX0_setRule 11 = .ok (.iload_n 1, 1) := by decide +kernel
theorem dX0_setRule_12 : decode cX0_setRule 12 = .ok (.iload_n 2, 1) := by decide +kernel
theorem dX0_setRule_13 : decode cX0_setRule 13 = .ok (.iastore, 1) := by decide +kernel
theorem dX0_setRule_14 : decode cX0_setRule 14 = .ok (.iload_n 1, 1) := by decide +kernel
theorem dX0_setRule_15 : decode cX0_setRule 15 = .ok (.ifCond .ne 12, 3) := by decide +kernel
theorem dX0_setRule_18 : decode cX0_setRule 18 = .ok (.iload_n 2, 1) := by decide +kernel
theorem dX0_setRule_19 : decode cX0_setRule 19 = .ok (.iload_n 3, 1) := by decide +kernel
theorem dX0_setRule_20 : decode cX0_setRule 20 = .ok (.if_icmp .eq 7, 3) := by decide +kernel
theorem dX0_setRule_23 : decode cX0_setRule 23 = .ok (.aload_n 0, 1) := by decide +kernel
theorem dX0_setRule_24 : decode cX0_setRule 24 = .ok (.invokevirtual 43, 3) := by decide +kernel
theorem dX0_setRule_27 : decode cX0_setRule 27 = .ok (.iload_n 3, 1) := by decide +kernel
theorem dX0_setRule_28 : decode cX0_setRule 28 = .ok (.ireturn, 1) := by decide +kernel
theorem dX0_size_0 : decode cX0_size 0 = .ok (.aload_n 0, 1) := by decide +kernel
theorem dX0_size_1 : decode cX0_size 1 = .ok (.getfield 28, 3) := by decide +kernel
theorem dX0_size_4 : decode cX0_size 4 = .ok (.ireturn, 1) := by decide +kernel
theorem dX0_linesTaken_0 : decode cX0_linesTaken 0 = .ok (.aload_n 0, 1) := by decide +kernel
theorem dX0_linesTaken_1 : decode cX0_linesTaken 1 = .ok (.getfield 22, 3) := by decide +kernel
theorem dX0_linesTaken_4 : decode cX0_linesTaken 4 = .ok (.iconst 1, 1) := by decide +kernel
theorem dX0_linesTaken_5 : decode cX0_linesTaken 5 = .ok (.iaload, 1) := by decide +kernel
theorem dX0_linesTaken_6 : decode cX0_linesTaken 6 = .ok (.ireturn, 1) := by decide +kernel
set_option maxRecDepth 20000 in
theorem ggX0_countAnew_X0_countBelow : GoodIn wsX0_countAnew wsX0_countBelow := goodIn_r _ [9, 2, 10, 11, 12, 8, 13, 3, 14, 15, 16, 17, 18, 19, 20, 21, 22, 23, 24, 25, 26, 27, 28, 29, 30, 31, 32, 33, 34] (by decide +kernel) (by decide +kernel)
set_option maxRecDepth 20000 in
theorem gX0_countAnew_X0_countBelow : GoodIn wsX0_countAnew (wsV RX0 46 RX0 yX0_countBelow wsX0_countBelow) := goodIn_app (goodIn_of _ (by decide +kernel)) ggX0_countAnew_X0_countBelow
theorem dX0_countAnew_0 : decode cX0_countAnew 0 = .ok (.aload_n 0, 1) := by decide +kernel
theorem dX0_countAnew_1 : decode cX0_countAnew 1 = .ok (.iconst 0, 1) := by decide +kernel
theorem dX0_countAnew_2 : decode cX0_countAnew 2 = .ok (.putfield 28, 3) := by decide +kernel
theorem dX0_countAnew_5 : decode cX0_countAnew 5 = .ok (.aload_n 0, 1) := by decide +kernel
theorem dX0_countAnew_6 : decode cX0_countAnew 6 = .ok (.getfield 15, 3) := by decide +kernel
theorem dX0_countAnew_9 : decode cX0_countAnew 9 = .ok (.iconst 0, 1) := by decide +kernel
theorem dX0_countAnew_10 : decode cX0_countAnew 10 = .ok (.iaload, 1) := by decide +kernel
theorem dX0_countAnew_11 : decode cX0_countAnew 11 = .ok (.istore_n 1, 1) := by decide +kernel
theorem dX0_countAnew_12 : decode cX0_countAnew 12 = .ok (.iload_n 1, 1) := by decide +kernel
theorem dX0_countAnew_13 : decode cX0_countAnew 13 = .ok (.aload_n 0, 1) := by decide +kernel
theorem dX0_countAnew_14 : decode cX0_countAnew 14 = .ok (.getfield 19, 3) := by decide +kernel
theorem dX0_countAnew_17 : decode cX0_countAnew 17 = .ok (.iconst 0, 1) := by decide +kernel
theorem dX0_countAnew_18 : decode cX0_countAnew 18 = .ok (.iaload, 1) := by decide +kernel
theorem dX0_countAnew_19 : decode cX0_countAnew 19 = .ok (.if_icmp .gt 41, 3) := by decide +kernel
theorem dX0_countAnew_22 : decode cX0_countAnew 22 = .ok (.aload_n 0, 1) := by decide +kernel
theorem dX0_countAnew_23 : decode cX0_countAnew 23 = .ok (.getfield 25, 3) := by decide +kernel
theorem dX0_countAnew_26 : decode cX0_countAnew 26 = .ok (.iload_n 1, 1) := by decide +kernel
theorem dX0_countAnew_27 : decode cX0_countAnew 27 = .ok (.aload_n 0, 1) := by decide +kernel
theorem dX0_countAnew_28 : decode cX0_countAnew 28 = .ok (.getfield 28, 3) := by decide +kernel
theorem dX0_countAnew_31 : decode cX0_countAnew 31 = .ok (.iastore, 1) := by decide +kernel
theorem dX0_countAnew_32 : decode cX0_countAnew 32 = .ok (.aload_n 0, 1) := by decide +kernel
theorem dX0_countAnew_33 : decode cX0_countAnew 33 = .ok (.dup, 1) := by decide +kernel
theorem dX0_countAnew_34 : decode cX0_countAnew 34 = .ok (.getfield 28, 3) := by decide +kernel
theorem dX0_countAnew_37 : decode cX0_countAnew 37 = .ok (.aload_n 0, 1) := by decide +kernel
theorem dX0_countAnew_38 : decode cX0_countAnew 38 = .ok (.iload_n 1, 1) := by decide +kernel
theorem dX0_countAnew_39 : decode cX0_countAnew 39 = .ok (.aload_n 0, 1) := by decide +kernel
theorem dX0_countAnew_40 : decode cX0_countAnew 40 = .ok (.getfield 19, 3) := by decide +kernel
theorem dX0_countAnew_43 : decode cX0_countAnew 43 = .ok (.iconst 1, 1) := by decide +kernel
theorem dX0_countAnew_44 : decode cX0_countAnew 44 = .ok (.iaload, 1) := by decide +kernel
theorem dX0_countAnew_45 : decode cX0_countAnew 45 = .ok (.iconst 1, 1) := by decide +kernel
theorem dX0_countAnew_46 : decode cX0_countAnew 46 = .ok (.iadd, 1) := by decide +kernel
theorem dX0_countAnew_47 : decode cX0_countAnew 47 = .ok (.invokevirtual 46, 3) := by decide +kernel
theorem dX0_countAnew_50 : decode cX0_countAnew 50 = .ok (.iadd, 1) := by decide +kernel
theorem dX0_countAnew_51 : decode cX0_countAnew 51 = .ok (.putfield 28, 3) := by decide +kernel
theorem dX0_countAnew_54 : decode cX0_countAnew 54 = .ok (.iinc 1 1, 3) := by decide +kernel
theorem dX0_countAnew_57 : decode cX0_countAnew 57 = .ok (.goto (-45), 3) := by decide +kernel
theorem dX0_countAnew_60 : decode cX0_countAnew 60 = .ok (.return_, 1) := by decide +kernel
set_option maxRecDepth 20000 in
theorem ggX0_countBelow_X0_isLawful : GoodIn wsX0_countBelow wsX0_isLawful := goodIn_r _ [6, 1, 7, 8, 9, 10, 11, 5, 12, 13, 14, 15, 16, 17, 18, 19, 20, 21, 22, 23, 24, 25, 26, 27, 28] (by decide +kernel) (by decide +kernel)
set_option maxRecDepth 20000 in
theorem gX0_countBelow_X0_isLawful : GoodIn wsX0_countBelow (wsV RX0 50 RX0 yX0_isLawful wsX0_isLawful) := goodIn_app (goodIn_of _ (by decide +kernel)) ggX0_countBelow_X0_isLawful
theorem dX0_countBelow_0 : decode cX0_countBelow 0 = .ok (.iconst 0, 1) := by decide +kernel
theorem dX0_countBelow_1 : decode cX0_countBelow 1 = .ok (.istore_n 3, 1) := by decide +kernel
theorem dX0_countBelow_2 : decode cX0_countBelow 2 = .ok (.aload_n 0, 1) := by decide +kernel
theorem dX0_countBelow_3 : decode cX0_countBelow 3 = .ok (.getfield 15, 3) := by decide +kernel
theorem dX0_countBelow_6 : decode cX0_countBelow 6 = .ok (.iconst 1, 1) := by decide +kernel
theorem dX0_countBelow_7 : decode cX0_countBelow 7 = .ok (.iaload, 1) := by decide +kernel
theorem dX0_countBelow_8 : decode cX0_countBelow 8 = .ok (.istore 4, 2) := by decide +kernel
theorem dX0_countBelow_10 : decode cX0_countBelow 10 = .ok (.iload 4, 2) := by decide +kernel
theorem dX0_countBelow_12 : decode cX0_countBelow 12 = .ok (.iload_n 2, 1) := by decide +kernel
theorem dX0_countBelow_13 : decode cX0_countBelow 13 = .ok (.if_icmp .ge 22, 3) := by decide +kernel
theorem dX0_countBelow_16 : decode cX0_countBelow 16 = .ok (.aload_n 0, 1) := by decide +kernel
theorem dX0_countBelow_17 : decode cX0_countBelow 17 = .ok (.iload_n 1, 1) := by decide +kernel
theorem dX0_countBelow_18 : decode cX0_countBelow 18 = .ok (.iload 4, 2) := by decide +kernel
theorem dX0_countBelow_20 : decode cX0_countBelow 20 = .ok (.invokevirtual 50, 3) := by decide +kernel
theorem dX0_countBelow_23 : decode cX0_countBelow 23 = .ok (.ifCond .eq 6, 3) := by decide +kernel
theorem dX0_countBelow_26 : decode cX0_countBelow 26 = .ok (.iinc 3 1, 3) := by decide +kernel
theorem dX0_countBelow_29 : decode cX0_countBelow 29 = .ok (.iinc 4 1, 3) := by decide +kernel
theorem dX0_countBelow_32 : decode cX0_countBelow 32 = .ok (.goto (-22), 3) := by decide +kernel
theorem dX0_countBelow_35 : decode cX0_countBelow 35 = .ok (.iload_n 3, 1) := by decide +kernel
theorem dX0_countBelow_36 : decode cX0_countBelow 36 = .ok (.ireturn, 1) := by decide +kernel
set_option maxRecDepth 20000 in
theorem ggX0_pairAt_X0_isLawful : GoodIn wsX0_pairAt wsX0_isLawful := goodIn_r _ [8, 1, 2, 9, 10, 11, 12, 7, 13, 14, 15, 16, 17, 18, 19, 20, 21, 22, 23, 24, 25, 26, 27, 28, 29] (by decide +kernel) (by decide +kernel)
set_option maxRecDepth 20000 in
theorem gX0_pairAt_X0_isLawful : GoodIn wsX0_pairAt (wsV RX0 50 RX0 yX0_isLawful wsX0_isLawful) := goodIn_app (goodIn_of _ (by decide +kernel)) ggX0_pairAt_X0_isLawful
theorem dX0_pairAt_0 : decode cX0_pairAt 0 = .ok (.aload_n 0, 1) := by decide +kernel
theorem dX0_pairAt_1 : decode cX0_pairAt 1 = .ok (.getfield 15, 3) := by decide +kernel
theorem dX0_pairAt_4 : decode cX0_pairAt 4 = .ok (.iconst 0, 1) := by decide +kernel
theorem dX0_pairAt_5 : decode cX0_pairAt 5 = .ok (.iaload, 1) := by decide +kernel
theorem dX0_pairAt_6 : decode cX0_pairAt 6 = .ok (.istore_n 2, 1) := by decide +kernel
theorem dX0_pairAt_7 : decode cX0_pairAt 7 = .ok (.iload_n 2, 1) := by decide +kernel
theorem dX0_pairAt_8 : decode cX0_pairAt 8 = .ok (.aload_n 0, 1) := by decide +kernel
theorem dX0_pairAt_9 : decode cX0_pairAt 9 = .ok (.getfield 19, 3) := by decide +kernel
theorem dX0_pairAt_12 : decode cX0_pairAt 12 = .ok (.iconst 0, 1) := by decide +kernel
theorem dX0_pairAt_13 : decode cX0_pairAt 13 = .ok (.iaload, 1) := by decide +kernel
theorem dX0_pairAt_14 : decode cX0_pairAt 14 = .ok (.if_icmp .ge 21, 3) := by decide +kernel
theorem dX0_pairAt_17 : decode cX0_pairAt 17 = .ok (.aload_n 0, 1) := by decide +kernel
theorem dX0_pairAt_18 : decode cX0_pairAt 18 = .ok (.getfield 25, 3) := by decide +kernel
theorem dX0_pairAt_21 : decode cX0_pairAt 21 = .ok (.iload_n 2, 1) := by decide +kernel
theorem dX0_pairAt_22 : decode cX0_pairAt 22 = .ok (.iconst 1, 1) := by decide +kernel
theorem dX0_pairAt_23 : decode cX0_pairAt 23 = .ok (.iadd, 1) := by decide +kernel
theorem dX0_pairAt_24 : decode cX0_pairAt 24 = .ok (.iaload, 1) := by decide +kernel
theorem dX0_pairAt_25 : decode cX0_pairAt 25 = .ok (.iload_n 1, 1) := by decide +kernel
theorem dX0_pairAt_26 : decode cX0_pairAt 26 = .ok (.if_icmp .gt 9, 3) := by decide +kernel
theorem dX0_pairAt_29 : decode cX0_pairAt 29 = .ok (.iinc 2 1, 3) := by decide +kernel
theorem dX0_pairAt_32 : decode cX0_pairAt 32 = .ok (.goto (-25), 3) := by decide +kernel
theorem dX0_pairAt_35 : decode cX0_pairAt 35 = .ok (.iload_n 1, 1) := by decide +kernel
theorem dX0_pairAt_36 : decode cX0_pairAt 36 = .ok (.aload_n 0, 1) := by decide +kernel
theorem dX0_pairAt_37 : decode cX0_pairAt 37 = .ok (.getfield 25, 3) := by decide +kernel
theorem dX0_pairAt_40 : decode cX0_pairAt 40 = .ok (.iload_n 2, 1) := by decide +kernel
theorem dX0_pairAt_41 : decode cX0_pairAt 41 = .ok (.iaload, 1) := by decide +kernel
theorem dX0_pairAt_42 : decode cX0_pairAt 42 = .ok (.isub, 1) := by decide +kernel
theorem dX0_pairAt_43 : decode cX0_pairAt 43 = .ok (.istore_n 3, 1) := by decide +kernel
theorem dX0_pairAt_44 : decode cX0_pairAt 44 = .ok (.aload_n 0, 1) := by decide +kernel
theorem dX0_pairAt_45 : decode cX0_pairAt 45 = .ok (.getfield 15, 3) := by decide +kernel
theorem dX0_pairAt_48 : decode cX0_pairAt 48 = .ok (.iconst 1, 1) := by decide +kernel
theorem dX0_pairAt_49 : decode cX0_pairAt 49 = .ok (.iaload, 1) := by decide +kernel
theorem dX0_pairAt_50 : decode cX0_pairAt 50 = .ok (.istore 4, 2) := by decide +kernel
theorem dX0_pairAt_52 : decode cX0_pairAt 52 = .ok (.iload 4, 2) := by decide +kernel
theorem dX0_pairAt_54 : decode cX0_pairAt 54 = .ok (.aload_n 0, 1) := by decide +kernel
theorem dX0_pairAt_55 : decode cX0_pairAt 55 = .ok (.getfield 19, 3) := by decide +kernel
theorem dX0_pairAt_58 : decode cX0_pairAt 58 = .ok (.iconst 1, 1) := by decide +kernel
theorem dX0_pairAt_59 : decode cX0_pairAt 59 = .ok (.iaload, 1) := by decide +kernel
theorem dX0_pairAt_60 : decode cX0_pairAt 60 = .ok (.if_icmp .ge 29, 3) := by decide +kernel
theorem dX0_pairAt_63 : decode cX0_pairAt 63 = .ok (.aload_n 0, 1) := by decide +kernel
theorem dX0_pairAt_64 : decode cX0_pairAt 64 = .ok (.iload_n 2, 1) := by decide +kernel
theorem dX0_pairAt_65 : decode cX0_pairAt 65 = .ok (.iload 4, 2) := by decide +kernel
theorem dX0_pairAt_67 : decode cX0_pairAt 67 = .ok (.invokevirtual 50, 3) := by decide +kernel
theorem dX0_pairAt_70 : decode cX0_pairAt 70 = .ok (.ifCond .eq 13, 3) := by decide +kernel
theorem dX0_pairAt_73 : decode cX0_pairAt 73 = .ok (.iload_n 3, 1) := by decide +kernel
theorem dX0_pairAt_74 : decode cX0_pairAt 74 = .ok (.ifCond .ne 6, 3) := by decide +kernel
theorem dX0_pairAt_77 : decode cX0_pairAt 77 = .ok (.goto 12, 3) := by decide +kernel
theorem dX0_pairAt_80 : decode cX0_pairAt 80 = .ok (.iinc 3 (-1), 3) := by decide +kernel
theorem dX0_pairAt_83 : decode cX0_pairAt 83 = .ok (.iinc 4 1, 3) := by decide +kernel
theorem dX0_pairAt_86 : decode cX0_pairAt 86 = .ok (.goto (-34), 3) := by decide +kernel
theorem dX0_pairAt_89 : decode cX0_pairAt 89 = .ok (.iload_n 2, 1) := by decide +kernel
theorem dX0_pairAt_90 : decode cX0_pairAt 90 = .ok (.bipush 100, 2) := by decide +kernel
theorem dX0_pairAt_92 : decode cX0_pairAt 92 = .ok (.imul, 1) := by decide +kernel
theorem dX0_pairAt_93 : decode cX0_pairAt 93 = .ok (.iload 4, 2) := by decide +kernel
theorem dX0_pairAt_95 : decode cX0_pairAt 95 = .ok (.iadd, 1) := by decide +kernel
theorem dX0_pairAt_96 : decode cX0_pairAt 96 = .ok (.ireturn, 1) := by decide +kernel
set_option maxRecDepth 20000 in
theorem ggX0_numberOf_X0_isLawful : GoodIn wsX0_numberOf wsX0_isLawful := goodIn_r _ [8, 1, 2, 9, 10, 11, 12, 7, 13, 14, 15, 16, 17, 18, 19, 20, 21, 22, 27, 28, 29, 30, 31, 32, 33] (by decide +kernel) (by decide +kernel)
set_option maxRecDepth 20000 in
theorem gX0_numberOf_X0_isLawful : GoodIn wsX0_numberOf (wsV RX0 50 RX0 yX0_isLawful wsX0_isLawful) := goodIn_app (goodIn_of _ (by decide +kernel)) ggX0_numberOf_X0_isLawful
set_option maxRecDepth 20000 in
theorem ggX0_numberOf_X0_countBelow : GoodIn wsX0_numberOf wsX0_countBelow := goodIn_r _ [26, 1, 4, 5, 6, 7, 8, 2, 9, 10, 11, 12, 13, 14, 15, 16, 17, 18, 19, 20, 21, 22, 27, 28, 29, 30, 31, 32, 33] (by decide +kernel) (by decide +kernel)
set_option maxRecDepth 20000 in
theorem gX0_numberOf_X0_countBelow : GoodIn wsX0_numberOf (wsV RX0 46 RX0 yX0_countBelow wsX0_countBelow) := goodIn_app (goodIn_of _ (by decide +kernel)) ggX0_numberOf_X0_countBelow
theorem dX0_numberOf_0 : decode cX0_numberOf 0 = .ok (.iload_n 1, 1) := by decide +kernel
theorem dX0_numberOf_1 : decode cX0_numberOf 1 = .ok (.aload_n 0, 1) := by decide +kernel
theorem dX0_numberOf_2 : decode cX0_numberOf 2 = .ok (.getfield 15, 3) := by decide +kernel
theorem dX0_numberOf_5 : decode cX0_numberOf 5 = .ok (.iconst 0, 1) := by decide +kernel
theorem dX0_numberOf_6 : decode cX0_numberOf 6 = .ok (.iaload, 1) := by decide +kernel
theorem dX0_numberOf_7 : decode cX0_numberOf 7 = .ok (.if_icmp .lt 37, 3) := by decide +kernel
theorem dX0_numberOf_10 : decode cX0_numberOf 10 = .ok (.iload_n 1, 1) := by decide +kernel
theorem dX0_numberOf_11 : decode cX0_numberOf 11 = .ok (.aload_n 0, 1) := by decide +kernel
theorem dX0_numberOf_12 : decode cX0_numberOf 12 = .ok (.getfield 19, 3) := by decide +kernel
theorem dX0_numberOf_15 : decode cX0_numberOf 15 = .ok (.iconst 0, 1) := by decide +kernel
theorem dX0_numberOf_16 : decode cX0_numberOf 16 = .ok (.iaload, 1) := by decide +kernel
theorem dX0_numberOf_17 : decode cX0_numberOf 17 = .ok (.if_icmp .gt 27, 3) := by decide +kernel
theorem dX0_numberOf_20 : decode cX0_numberOf 20 = .ok (.iload_n 2, 1) := by decide +kernel
theorem dX0_numberOf_21 : decode cX0_numberOf 21 = .ok (.aload_n 0, 1) := by decide +kernel
theorem dX0_numberOf_22 : decode cX0_numberOf 22 = .ok (.getfield 15, 3) := by decide +kernel
theorem dX0_numberOf_25 : decode cX0_numberOf 25 = .ok (.iconst 1, 1) := by decide +kernel
theorem dX0_numberOf_26 : decode cX0_numberOf 26 = .ok (.iaload, 1) := by decide +kernel
theorem dX0_numberOf_27 : decode cX0_numberOf 27 = .ok (.if_icmp .lt 17, 3) := by decide +kernel
theorem dX0_numberOf_30 : decode cX0_numberOf 30 = .ok (.iload_n 2, 1) := by decide +kernel
theorem dX0_numberOf_31 : decode cX0_numberOf 31 = .ok (.aload_n 0, 1) := by decide +kernel
theorem dX0_numberOf_32 : decode cX0_numberOf 32 = .ok (.getfield 19, 3) := by decide +kernel
theorem dX0_numberOf_35 : decode cX0_numberOf 35 = .ok (.iconst 1, 1) := by decide +kernel
theorem dX0_numberOf_36 : decode cX0_numberOf 36 = .ok (.iaload, 1) := by decide +kernel
theorem dX0_numberOf_37 : decode cX0_numberOf 37 = .ok (.if_icmp .gt 7, 3) := by decide +kernel
theorem dX0_numberOf_40 : decode cX0_numberOf 40 = .ok (.iconst 1, 1) := by decide +kernel
theorem dX0_numberOf_41 : decode cX0_numberOf 41 = .ok (.goto 4, 3) := by decide +kernel
theorem dX0_numberOf_44 : decode cX0_numberOf 44 = .ok (.iconst 0, 1) := by decide +kernel
theorem dX0_numberOf_45 : decode cX0_numberOf 45 = .ok (.istore_n 3, 1) := by decide +kernel
theorem dX0_numberOf_46 : decode cX0_numberOf 46 = .ok (.iload_n 3, 1) := by decide +kernel
theorem dX0_numberOf_47 : decode cX0_numberOf 47 = .ok (.ifCond .eq 28, 3) := by decide +kernel
theorem dX0_numberOf_50 : decode cX0_numberOf 50 = .ok (.aload_n 0, 1) := by decide +kernel
theorem dX0_numberOf_51 : decode cX0_numberOf 51 = .ok (.iload_n 1, 1) := by decide +kernel
theorem dX0_numberOf_52 : decode cX0_numberOf 52 = .ok (.iload_n 2, 1) := by decide +kernel
theorem dX0_numberOf_53 : decode cX0_numberOf 53 = .ok (.invokevirtual 50, 3) := by decide +kernel
theorem dX0_numberOf_56 : decode cX0_numberOf 56 = .ok (.ifCond .eq 19, 3) := by decide +kernel
theorem dX0_numberOf_59 : decode cX0_numberOf 59 = .ok (.aload_n 0, 1) := by decide +kernel
theorem dX0_numberOf_60 : decode cX0_numberOf 60 = .ok (.getfield 25, 3) := by decide +kernel
theorem dX0_numberOf_63 : decode cX0_numberOf 63 = .ok (.iload_n 1, 1) := by decide +kernel
theorem dX0_numberOf_64 : decode cX0_numberOf 64 = .ok (.iaload, 1) := by decide +kernel
theorem dX0_numberOf_65 : decode cX0_numberOf 65 = .ok (.aload_n 0, 1) := by decide +kernel
theorem dX0_numberOf_66 : decode cX0_numberOf 66 = .ok (.iload_n 1, 1) := by decide +kernel
theorem dX0_numberOf_67 : decode cX0_numberOf 67 = .ok (.iload_n 2, 1) := by decide +kernel
theorem dX0_numberOf_68 : decode cX0_numberOf 68 = .ok (.invokevirtual 46, 3) := by decide +kernel
theorem dX0_numberOf_71 : decode cX0_numberOf 71 = .ok (.iadd, 1) := by decide +kernel
theorem dX0_numberOf_72 : decode cX0_numberOf 72 = .ok (.goto 5, 3) := by decide +kernel
theorem dX0_numberOf_75 : decode cX0_numberOf 75 = .ok (.bipush (-9), 2) := by decide +kernel
theorem dX0_numberOf_77 : decode cX0_numberOf 77 = .ok (.ireturn, 1) := by decide +kernel
set_option maxRecDepth 20000 in
theorem ggX0_isLawful_X0_result : GoodIn wsX0_isLawful wsX0_result := goodIn_r _ [8, 9, 18, 19, 20, 21, 22, 23, 24] (by decide +kernel) (by decide +kernel)
set_option maxRecDepth 20000 in
theorem gX0_isLawful_X0_result : GoodIn wsX0_isLawful (wsV RX0 54 RX0 yX0_result wsX0_result) := goodIn_app (goodIn_of _ (by decide +kernel)) ggX0_isLawful_X0_result
set_option maxRecDepth 20000 in
theorem ggX0_isLawful_X0_carries : GoodIn wsX0_isLawful wsX0_carries := goodIn_r _ [13, 9, 18, 19, 20, 21, 22, 23, 24] (by decide +kernel) (by decide +kernel)
set_option maxRecDepth 20000 in
theorem gX0_isLawful_X0_carries : GoodIn wsX0_isLawful (wsV RX0 57 RX0 yX0_carries wsX0_carries) := goodIn_app (goodIn_of _ (by decide +kernel)) ggX0_isLawful_X0_carries
set_option maxRecDepth 20000 in
theorem ggX0_isLawful_X0_otherOperation : GoodIn wsX0_isLawful wsX0_otherOperation := goodIn_r _ [17, 9, 18, 19, 20, 21, 22, 23, 24] (by decide +kernel) (by decide +kernel)
set_option maxRecDepth 20000 in
theorem gX0_isLawful_X0_otherOperation : GoodIn wsX0_isLawful (wsV RX0 60 RX0 yX0_otherOperation wsX0_otherOperation) := goodIn_app (goodIn_of _ (by decide +kernel)) ggX0_isLawful_X0_otherOperation
theorem dX0_isLawful_0 : decode cX0_isLawful 0 = .ok (.aload_n 0, 1) := by decide +kernel
theorem dX0_isLawful_1 : decode cX0_isLawful 1 = .ok (.iload_n 1, 1) := by decide +kernel
theorem dX0_isLawful_2 : decode cX0_isLawful 2 = .ok (.iload_n 2, 1) := by decide +kernel
theorem dX0_isLawful_3 : decode cX0_isLawful 3 = .ok (.invokevirtual 54, 3) := by decide +kernel
theorem dX0_isLawful_6 : decode cX0_isLawful 6 = .ok (.istore_n 3, 1) := by decide +kernel
theorem dX0_isLawful_7 : decode cX0_isLawful 7 = .ok (.iload_n 3, 1) := by decide +kernel
theorem dX0_isLawful_8 : decode cX0_isLawful 8 = .ok (.aload_n 0, 1) := by decide +kernel
theorem dX0_isLawful_9 : decode cX0_isLawful 9 = .ok (.getfield 15, 3) := by decide +kernel
theorem dX0_isLawful_12 : decode cX0_isLawful 12 = .ok (.iconst 2, 1) := by decide +kernel
theorem dX0_isLawful_13 : decode cX0_isLawful 13 = .ok (.iaload, 1) := by decide +kernel
theorem dX0_isLawful_14 : decode cX0_isLawful 14 = .ok (.if_icmp .lt 13, 3) := by decide +kernel
theorem dX0_isLawful_17 : decode cX0_isLawful 17 = .ok (.iload_n 3, 1) := by decide +kernel
theorem dX0_isLawful_18 : decode cX0_isLawful 18 = .ok (.aload_n 0, 1) := by decide +kernel
theorem dX0_isLawful_19 : decode cX0_isLawful 19 = .ok (.getfield 19, 3) := by decide +kernel
theorem dX0_isLawful_22 : decode cX0_isLawful 22 = .ok (.iconst 2, 1) := by decide +kernel
theorem dX0_isLawful_23 : decode cX0_isLawful 23 = .ok (.iaload, 1) := by decide +kernel
theorem dX0_isLawful_24 : decode cX0_isLawful 24 = .ok (.if_icmp .le 5, 3) := by decide +kernel
theorem dX0_isLawful_27 : decode cX0_isLawful 27 = .ok (.iconst 0, 1) := by decide +kernel
theorem dX0_isLawful_28 : decode cX0_isLawful 28 = .ok (.ireturn, 1) := by decide +kernel
theorem dX0_isLawful_29 : decode cX0_isLawful 29 = .ok (.aload_n 0, 1) := by decide +kernel
theorem dX0_isLawful_30 : decode cX0_isLawful 30 = .ok (.getfield 22, 3) := by decide +kernel
theorem dX0_isLawful_33 : decode cX0_isLawful 33 = .ok (.iconst 0, 1) := by decide +kernel
theorem dX0_isLawful_34 : decode cX0_isLawful 34 = .ok (.iaload, 1) := by decide +kernel
theorem dX0_isLawful_35 : decode cX0_isLawful 35 = .ok (.tableswitch 63 1 3 #[25, 40, 47], 25) := by decide +kernel
theorem dX0_isLawful_60 : decode cX0_isLawful 60 = .ok (.aload_n 0, 1) := by decide +kernel
theorem dX0_isLawful_61 : decode cX0_isLawful 61 = .ok (.iload_n 1, 1) := by decide +kernel
theorem dX0_isLawful_62 : decode cX0_isLawful 62 = .ok (.iload_n 2, 1) := by decide +kernel
theorem dX0_isLawful_63 : decode cX0_isLawful 63 = .ok (.invokevirtual 57, 3) := by decide +kernel
theorem dX0_isLawful_66 : decode cX0_isLawful 66 = .ok (.ifCond .ne 7, 3) := by decide +kernel
theorem dX0_isLawful_69 : decode cX0_isLawful 69 = .ok (.iconst 1, 1) := by decide +kernel
theorem dX0_isLawful_70 : decode cX0_isLawful 70 = .ok (.goto 4, 3) := by decide +kernel
theorem dX0_isLawful_73 : decode cX0_isLawful 73 = .ok (.iconst 0, 1) := by decide +kernel
theorem dX0_isLawful_74 : decode cX0_isLawful 74 = .ok (.ireturn, 1) := by decide +kernel
theorem dX0_isLawful_75 : decode cX0_isLawful 75 = .ok (.aload_n 0, 1) := by decide +kernel
theorem dX0_isLawful_76 : decode cX0_isLawful 76 = .ok (.iload_n 1, 1) := by decide +kernel
theorem dX0_isLawful_77 : decode cX0_isLawful 77 = .ok (.iload_n 2, 1) := by decide +kernel
theorem dX0_isLawful_78 : decode cX0_isLawful 78 = .ok (.invokevirtual 57, 3) := by decide +kernel
theorem dX0_isLawful_81 : decode cX0_isLawful 81 = .ok (.ireturn, 1) := by decide +kernel
theorem dX0_isLawful_82 : decode cX0_isLawful 82 = .ok (.aload_n 0, 1) := by decide +kernel
theorem dX0_isLawful_83 : decode cX0_isLawful 83 = .ok (.iload_n 1, 1) := by decide +kernel
theorem dX0_isLawful_84 : decode cX0_isLawful 84 = .ok (.iload_n 2, 1) := by decide +kernel
theorem dX0_isLawful_85 : decode cX0_isLawful 85 = .ok (.invokevirtual 60, 3) := by decide +kernel
theorem dX0_isLawful_88 : decode cX0_isLawful 88 = .ok (.iload_n 3, 1) := by decide +kernel
theorem dX0_isLawful_89 : decode cX0_isLawful 89 = .ok (.if_icmp .eq 7, 3) := by decide +kernel
theorem dX0_isLawful_92 : decode cX0_isLawful 92 = .ok (.iconst 1, 1) := by decide +kernel
theorem dX0_isLawful_93 : decode cX0_isLawful 93 = .ok (.goto 4, 3) := by decide +kernel
theorem dX0_isLawful_96 : decode cX0_isLawful 96 = .ok (.iconst 0, 1) := by decide +kernel
theorem dX0_isLawful_97 : decode cX0_isLawful 97 = .ok (.ireturn, 1) := by decide +kernel
theorem dX0_isLawful_98 : decode cX0_isLawful 98 = .ok (.iconst 1, 1) := by decide +kernel
theorem dX0_isLawful_99 : decode cX0_isLawful 99 = .ok (.ireturn, 1) := by decide +kernel
theorem dX0_result_0 : decode cX0_result 0 = .ok (.aload_n 0, 1) := by decide +kernel
theorem dX0_result_1 : decode cX0_result 1 = .ok (.getfield 11, 3) := by decide +kernel
theorem dX0_result_4 : decode cX0_result 4 = .ok (.tableswitch 50 0 2 #[28, 32, 46], 28) := by decide +kernel
theorem dX0_result_32 : decode cX0_result 32 = .ok (.iload_n 1, 1) := by decide +kernel
theorem dX0_result_33 : decode cX0_result 33 = .ok (.iload_n 2, 1) := by decide +kernel
theorem dX0_result_34 : decode cX0_result 34 = .ok (.iadd, 1) := by decide +kernel
theorem dX0_result_35 : decode cX0_result 35 = .ok (.ireturn, 1) := by decide +kernel
theorem dX0_result_36 : decode cX0_result 36 = .ok (.iload_n 1, 1) := by decide +kernel
theorem dX0_result_37 : decode cX0_result 37 = .ok (.iload_n 2, 1) := by decide +kernel
theorem dX0_result_38 : decode cX0_result 38 = .ok (.if_icmp .lt 9, 3) := by decide +kernel
theorem dX0_result_41 : decode cX0_result 41 = .ok (.iload_n 1, 1) := by decide +kernel
theorem dX0_result_42 : decode cX0_result 42 = .ok (.iload_n 2, 1) := by decide +kernel
theorem dX0_result_43 : decode cX0_result 43 = .ok (.isub, 1) := by decide +kernel
theorem dX0_result_44 : decode cX0_result 44 = .ok (.goto 5, 3) := by decide +kernel
theorem dX0_result_47 : decode cX0_result 47 = .ok (.bipush (-9), 2) := by decide +kernel
theorem dX0_result_49 : decode cX0_result 49 = .ok (.ireturn, 1) := by decide +kernel
theorem dX0_result_50 : decode cX0_result 50 = .ok (.iload_n 1, 1) := by decide +kernel
theorem dX0_result_51 : decode cX0_result 51 = .ok (.iload_n 2, 1) := by decide +kernel
theorem dX0_result_52 : decode cX0_result 52 = .ok (.imul, 1) := by decide +kernel
theorem dX0_result_53 : decode cX0_result 53 = .ok (.ireturn, 1) := by decide +kernel
theorem dX0_result_54 : decode cX0_result 54 = .ok (.iload_n 2, 1) := by decide +kernel
theorem dX0_result_55 : decode cX0_result 55 = .ok (.ifCond .eq 15, 3) := by decide +kernel
theorem dX0_result_58 : decode cX0_result 58 = .ok (.iload_n 1, 1) := by decide +kernel
theorem dX0_result_59 : decode cX0_result 59 = .ok (.iload_n 2, 1) := by decide +kernel
theorem dX0_result_60 : decode cX0_result 60 = .ok (.irem, 1) := by decide +kernel
theorem dX0_result_61 : decode cX0_result 61 = .ok (.ifCond .ne 9, 3) := by decide +kernel
theorem dX0_result_64 : decode cX0_result 64 = .ok (.iload_n 1, 1) := by decide +kernel
theorem dX0_result_65 : decode cX0_result 65 = .ok (.iload_n 2, 1) := by decide +kernel
theorem dX0_result_66 : decode cX0_result 66 = .ok (.idiv, 1) := by decide +kernel
theorem dX0_result_67 : decode cX0_result 67 = .ok (.goto 5, 3) := by decide +kernel
theorem dX0_result_70 : decode cX0_result 70 = .ok (.bipush (-9), 2) := by decide +kernel
theorem dX0_result_72 : decode cX0_result 72 = .ok (.ireturn, 1) := by decide +kernel
theorem dX0_carries_0 : decode cX0_carries 0 = .ok (.aload_n 0, 1) := by decide +kernel
theorem dX0_carries_1 : decode cX0_carries 1 = .ok (.getfield 11, 3) := by decide +kernel
theorem dX0_carries_4 : decode cX0_carries 4 = .ok (.lookupswitch 65 #[(0, 28), (1, 48)], 28) := by decide +kernel
theorem dX0_carries_32 : decode cX0_carries 32 = .ok (.iload_n 1, 1) := by decide +kernel
theorem dX0_carries_33 : decode cX0_carries 33 = .ok (.bipush 10, 2) := by decide +kernel
theorem dX0_carries_35 : decode cX0_carries 35 = .ok (.irem, 1) := by decide +kernel
theorem dX0_carries_36 : decode cX0_carries 36 = .ok (.iload_n 2, 1) := by decide +kernel
theorem dX0_carries_37 : decode cX0_carries 37 = .ok (.bipush 10, 2) := by decide +kernel
theorem dX0_carries_39 : decode cX0_carries 39 = .ok (.irem, 1) := by decide +kernel
theorem dX0_carries_40 : decode cX0_carries 40 = .ok (.iadd, 1) := by decide +kernel
theorem dX0_carries_41 : decode cX0_carries 41 = .ok (.bipush 10, 2) := by decide +kernel
theorem dX0_carries_43 : decode cX0_carries 43 = .ok (.if_icmp .lt 7, 3) := by decide +kernel
theorem dX0_carries_46 : decode cX0_carries 46 = .ok (.iconst 1, 1) := by decide +kernel
theorem dX0_carries_47 : decode cX0_carries 47 = .ok (.goto 4, 3) := by decide +kernel
theorem dX0_carries_50 : decode cX0_carries 50 = .ok (.iconst 0, 1) := by decide +kernel
theorem dX0_carries_51 : decode cX0_carries 51 = .ok (.ireturn, 1) := by decide +kernel
theorem dX0_carries_52 : decode cX0_carries 52 = .ok (.iload_n 1, 1) := by decide +kernel
theorem dX0_carries_53 : decode cX0_carries 53 = .ok (.bipush 10, 2) := by decide +kernel
theorem dX0_carries_55 : decode cX0_carries 55 = .ok (.irem, 1) := by decide +kernel
theorem dX0_carries_56 : decode cX0_carries 56 = .ok (.iload_n 2, 1) := by decide +kernel
theorem dX0_carries_57 : decode cX0_carries 57 = .ok (.bipush 10, 2) := by decide +kernel
theorem dX0_carries_59 : decode cX0_carries 59 = .ok (.irem, 1) := by decide +kernel
theorem dX0_carries_60 : decode cX0_carries 60 = .ok (.if_icmp .ge 7, 3) := by decide +kernel
theorem dX0_carries_63 : decode cX0_carries 63 = .ok (.iconst 1, 1) := by decide +kernel
theorem dX0_carries_64 : decode cX0_carries 64 = .ok (.goto 4, 3) := by decide +kernel
theorem dX0_carries_67 : decode cX0_carries 67 = .ok (.iconst 0, 1) := by decide +kernel
theorem dX0_carries_68 : decode cX0_carries 68 = .ok (.ireturn, 1) := by decide +kernel
theorem dX0_carries_69 : decode cX0_carries 69 = .ok (.iconst 0, 1) := by decide +kernel
theorem dX0_carries_70 : decode cX0_carries 70 = .ok (.ireturn, 1) := by decide +kernel
set_option maxRecDepth 20000 in
theorem ggX0_slipped_X0_result : GoodIn wsX0_slipped wsX0_result := goodIn_r _ [5, 6, 26, 27, 28, 29, 30, 31, 32] (by decide +kernel) (by decide +kernel)
set_option maxRecDepth 20000 in
theorem gX0_slipped_X0_result : GoodIn wsX0_slipped (wsV RX0 54 RX0 yX0_result wsX0_result) := goodIn_app (goodIn_of _ (by decide +kernel)) ggX0_slipped_X0_result
set_option maxRecDepth 20000 in
theorem ggX0_slipped_X0_otherOperation : GoodIn wsX0_slipped wsX0_otherOperation := goodIn_r _ [10, 6, 26, 27, 28, 29, 30, 31, 32] (by decide +kernel) (by decide +kernel)
set_option maxRecDepth 20000 in
theorem gX0_slipped_X0_otherOperation : GoodIn wsX0_slipped (wsV RX0 60 RX0 yX0_otherOperation wsX0_otherOperation) := goodIn_app (goodIn_of _ (by decide +kernel)) ggX0_slipped_X0_otherOperation
set_option maxRecDepth 20000 in
theorem ggX0_slipped_X0_carries : GoodIn wsX0_slipped wsX0_carries := goodIn_r _ [14, 6, 26, 27, 28, 29, 30, 31, 32] (by decide +kernel) (by decide +kernel)
set_option maxRecDepth 20000 in
theorem gX0_slipped_X0_carries : GoodIn wsX0_slipped (wsV RX0 57 RX0 yX0_carries wsX0_carries) := goodIn_app (goodIn_of _ (by decide +kernel)) ggX0_slipped_X0_carries
set_option maxRecDepth 20000 in
theorem ggX0_slipped_X0_withoutCarrying : GoodIn wsX0_slipped wsX0_withoutCarrying := goodIn_r _ [18, 6, 19, 20, 21, 22, 26, 27, 28, 29, 30, 31, 32] (by decide +kernel) (by decide +kernel)
set_option maxRecDepth 20000 in
theorem gX0_slipped_X0_withoutCarrying : GoodIn wsX0_slipped (wsV RX0 63 RX0 yX0_withoutCarrying wsX0_withoutCarrying) := goodIn_app (goodIn_of _ (by decide +kernel)) ggX0_slipped_X0_withoutCarrying
set_option maxRecDepth 20000 in
theorem ggX0_slipped_X0_exchanged : GoodIn wsX0_slipped wsX0_exchanged := goodIn_r _ [25] (by decide +kernel) (by decide +kernel)
set_option maxRecDepth 20000 in
theorem gX0_slipped_X0_exchanged : GoodIn wsX0_slipped (va_wsS RX0 66 yX0_exchanged wsX0_exchanged) := goodIn_app (goodIn_of _ (by decide +kernel)) ggX0_slipped_X0_exchanged
theorem dX0_slipped_0 : decode cX0_slipped 0 = .ok (.aload_n 0, 1) := by decide +kernel
theorem dX0_slipped_1 : decode cX0_slipped 1 = .ok (.iload_n 1, 1) := by decide +kernel
theorem dX0_slipped_2 : decode cX0_slipped 2 = .ok (.iload_n 2, 1) := by decide +kernel
theorem dX0_slipped_3 : decode cX0_slipped 3 = .ok (.invokevirtual 54, 3) := by decide +kernel
theorem dX0_slipped_6 : decode cX0_slipped 6 = .ok (.istore 4, 2) := by decide +kernel
theorem dX0_slipped_8 : decode cX0_slipped 8 = .ok (.iload_n 3, 1) := by decide +kernel
theorem dX0_slipped_9 : decode cX0_slipped 9 = .ok (.tableswitch 79 1 4 #[31, 38, 59, 64], 31) := by decide +kernel
theorem dX0_slipped_40 : decode cX0_slipped 40 = .ok (.aload_n 0, 1) := by decide +kernel
theorem dX0_slipped_41 : decode cX0_slipped 41 = .ok (.iload_n 1, 1) := by decide +kernel
theorem dX0_slipped_42 : decode cX0_slipped 42 = .ok (.iload_n 2, 1) := by decide +kernel
theorem dX0_slipped_43 : decode cX0_slipped 43 = .ok (.invokevirtual 60, 3) := by decide +kernel
theorem dX0_slipped_46 : decode cX0_slipped 46 = .ok (.ireturn, 1) := by decide +kernel
theorem dX0_slipped_47 : decode cX0_slipped 47 = .ok (.aload_n 0, 1) := by decide +kernel
theorem dX0_slipped_48 : decode cX0_slipped 48 = .ok (.iload_n 1, 1) := by decide +kernel
theorem dX0_slipped_49 : decode cX0_slipped 49 = .ok (.iload_n 2, 1) := by decide +kernel
theorem dX0_slipped_50 : decode cX0_slipped 50 = .ok (.invokevirtual 57, 3) := by decide +kernel
theorem dX0_slipped_53 : decode cX0_slipped 53 = .ok (.ifCond .eq 12, 3) := by decide +kernel
theorem dX0_slipped_56 : decode cX0_slipped 56 = .ok (.aload_n 0, 1) := by decide +kernel
theorem dX0_slipped_57 : decode cX0_slipped 57 = .ok (.iload_n 1, 1) := by decide +kernel
theorem dX0_slipped_58 : decode cX0_slipped 58 = .ok (.iload_n 2, 1) := by decide +kernel
theorem dX0_slipped_59 : decode cX0_slipped 59 = .ok (.invokevirtual 63, 3) := by decide +kernel
theorem dX0_slipped_62 : decode cX0_slipped 62 = .ok (.goto 5, 3) := by decide +kernel
theorem dX0_slipped_65 : decode cX0_slipped 65 = .ok (.bipush (-9), 2) := by decide +kernel
theorem dX0_slipped_67 : decode cX0_slipped 67 = .ok (.ireturn, 1) := by decide +kernel
theorem dX0_slipped_68 : decode cX0_slipped 68 = .ok (.iload 4, 2) := by decide +kernel
theorem dX0_slipped_70 : decode cX0_slipped 70 = .ok (.iconst 1, 1) := by decide +kernel
theorem dX0_slipped_71 : decode cX0_slipped 71 = .ok (.iadd, 1) := by decide +kernel
theorem dX0_slipped_72 : decode cX0_slipped 72 = .ok (.ireturn, 1) := by decide +kernel
theorem dX0_slipped_73 : decode cX0_slipped 73 = .ok (.iload 4, 2) := by decide +kernel
theorem dX0_slipped_75 : decode cX0_slipped 75 = .ok (.ifCond .le 10, 3) := by decide +kernel
theorem dX0_slipped_78 : decode cX0_slipped 78 = .ok (.iload 4, 2) := by decide +kernel
theorem dX0_slipped_80 : decode cX0_slipped 80 = .ok (.iconst 1, 1) := by decide +kernel
theorem dX0_slipped_81 : decode cX0_slipped 81 = .ok (.isub, 1) := by decide +kernel
theorem dX0_slipped_82 : decode cX0_slipped 82 = .ok (.goto 5, 3) := by decide +kernel
theorem dX0_slipped_85 : decode cX0_slipped 85 = .ok (.bipush (-9), 2) := by decide +kernel
theorem dX0_slipped_87 : decode cX0_slipped 87 = .ok (.ireturn, 1) := by decide +kernel
theorem dX0_slipped_88 : decode cX0_slipped 88 = .ok (.iload 4, 2) := by decide +kernel
theorem dX0_slipped_90 : decode cX0_slipped 90 = .ok (.invokestatic 66, 3) := by decide +kernel
theorem dX0_slipped_93 : decode cX0_slipped 93 = .ok (.ireturn, 1) := by decide +kernel
set_option maxRecDepth 20000 in
theorem ggX0_slipBehind_X0_pairAt : GoodIn wsX0_slipBehind wsX0_pairAt := goodIn_r _ [5, 6, 7, 8, 9, 10, 11, 4, 12, 13, 14, 15, 16, 17, 18, 19, 20, 21, 22, 23, 24, 25, 26, 42, 43, 44, 45, 46, 47, 48] (by decide +kernel) (by decide +kernel)
set_option maxRecDepth 20000 in
theorem gX0_slipBehind_X0_pairAt : GoodIn wsX0_slipBehind (wsV RX0 70 RX0 yX0_pairAt wsX0_pairAt) := goodIn_app (goodIn_of _ (by decide +kernel)) ggX0_slipBehind_X0_pairAt
set_option maxRecDepth 20000 in
theorem ggX0_slipBehind_X0_result : GoodIn wsX0_slipBehind wsX0_result := goodIn_r _ [17, 18, 42, 43, 44, 45, 46, 47, 48] (by decide +kernel) (by decide +kernel)
set_option maxRecDepth 20000 in
theorem gX0_slipBehind_X0_result : GoodIn wsX0_slipBehind (wsV RX0 54 RX0 yX0_result wsX0_result) := goodIn_app (goodIn_of _ (by decide +kernel)) ggX0_slipBehind_X0_result
set_option maxRecDepth 20000 in
theorem ggX0_slipBehind_X0_slipped : GoodIn wsX0_slipBehind wsX0_slipped := goodIn_r _ [30, 14, 15, 16, 4, 17, 18, 23, 24, 25, 26, 19, 20, 21, 22, 31, 32, 33, 34, 35, 36, 37, 38, 39, 40, 41, 42, 43, 44, 45, 46, 47, 48] (by decide +kernel) (by decide +kernel)
set_option maxRecDepth 20000 in
theorem gX0_slipBehind_X0_slipped : GoodIn wsX0_slipBehind (wsV RX0 73 RX0 yX0_slipped wsX0_slipped) := goodIn_app (goodIn_of _ (by decide +kernel)) ggX0_slipBehind_X0_slipped
theorem dX0_slipBehind_0 : decode cX0_slipBehind 0 = .ok (.aload_n 0, 1) := by decide +kernel
theorem dX0_slipBehind_1 : decode cX0_slipBehind 1 = .ok (.iload_n 1, 1) := by decide +kernel
theorem dX0_slipBehind_2 : decode cX0_slipBehind 2 = .ok (.invokevirtual 70, 3) := by decide +kernel
theorem dX0_slipBehind_5 : decode cX0_slipBehind 5 = .ok (.istore_n 3, 1) := by decide +kernel
theorem dX0_slipBehind_6 : decode cX0_slipBehind 6 = .ok (.iload_n 3, 1) := by decide +kernel
theorem dX0_slipBehind_7 : decode cX0_slipBehind 7 = .ok (.bipush 100, 2) := by decide +kernel
theorem dX0_slipBehind_9 : decode cX0_slipBehind 9 = .ok (.idiv, 1) := by decide +kernel
theorem dX0_slipBehind_10 : decode cX0_slipBehind 10 = .ok (.istore 4, 2) := by decide +kernel
theorem dX0_slipBehind_12 : decode cX0_slipBehind 12 = .ok (.iload_n 3, 1) := by decide +kernel
theorem dX0_slipBehind_13 : decode cX0_slipBehind 13 = .ok (.bipush 100, 2) := by decide +kernel
theorem dX0_slipBehind_15 : decode cX0_slipBehind 15 = .ok (.irem, 1) := by decide +kernel
theorem dX0_slipBehind_16 : decode cX0_slipBehind 16 = .ok (.istore 5, 2) := by decide +kernel
theorem dX0_slipBehind_18 : decode cX0_slipBehind 18 = .ok (.iload_n 2, 1) := by decide +kernel
theorem dX0_slipBehind_19 : decode cX0_slipBehind 19 = .ok (.aload_n 0, 1) := by decide +kernel
theorem dX0_slipBehind_20 : decode cX0_slipBehind 20 = .ok (.iload 4, 2) := by decide +kernel
theorem dX0_slipBehind_22 : decode cX0_slipBehind 22 = .ok (.iload 5, 2) := by decide +kernel
theorem dX0_slipBehind_24 : decode cX0_slipBehind 24 = .ok (.invokevirtual 54, 3) := by decide +kernel
theorem dX0_slipBehind_27 : decode cX0_slipBehind 27 = .ok (.if_icmp .ne 5, 3) := by decide +kernel
theorem dX0_slipBehind_30 : decode cX0_slipBehind 30 = .ok (.iconst 0, 1) := by decide +kernel
theorem dX0_slipBehind_31 : decode cX0_slipBehind 31 = .ok (.ireturn, 1) := by decide +kernel
theorem dX0_slipBehind_32 : decode cX0_slipBehind 32 = .ok (.iload_n 2, 1) := by decide +kernel
theorem dX0_slipBehind_33 : decode cX0_slipBehind 33 = .ok (.ifCond .ge 6, 3) := by decide +kernel
theorem dX0_slipBehind_36 : decode cX0_slipBehind 36 = .ok (.bipush (-9), 2) := by decide +kernel
theorem dX0_slipBehind_38 : decode cX0_slipBehind 38 = .ok (.ireturn, 1) := by decide +kernel
theorem dX0_slipBehind_39 : decode cX0_slipBehind 39 = .ok (.iconst 1, 1) := by decide +kernel
theorem dX0_slipBehind_40 : decode cX0_slipBehind 40 = .ok (.istore 6, 2) := by decide +kernel
theorem dX0_slipBehind_42 : decode cX0_slipBehind 42 = .ok (.iload 6, 2) := by decide +kernel
theorem dX0_slipBehind_44 : decode cX0_slipBehind 44 = .ok (.iconst 5, 1) := by decide +kernel
theorem dX0_slipBehind_45 : decode cX0_slipBehind 45 = .ok (.if_icmp .gt 26, 3) := by decide +kernel
theorem dX0_slipBehind_48 : decode cX0_slipBehind 48 = .ok (.aload_n 0, 1) := by decide +kernel
theorem dX0_slipBehind_49 : decode cX0_slipBehind 49 = .ok (.iload 4, 2) := by decide +kernel
theorem dX0_slipBehind_51 : decode cX0_slipBehind 51 = .ok (.iload 5, 2) := by decide +kernel
theorem dX0_slipBehind_53 : decode cX0_slipBehind 53 = .ok (.iload 6, 2) := by decide +kernel
theorem dX0_slipBehind_55 : decode cX0_slipBehind 55 = .ok (.invokevirtual 73, 3) := by decide +kernel
theorem dX0_slipBehind_58 : decode cX0_slipBehind 58 = .ok (.iload_n 2, 1) := by decide +kernel
theorem dX0_slipBehind_59 : decode cX0_slipBehind 59 = .ok (.if_icmp .ne 6, 3) := by decide +kernel
theorem dX0_slipBehind_62 : decode cX0_slipBehind 62 = .ok (.iload 6, 2) := by decide +kernel
theorem dX0_slipBehind_64 : decode cX0_slipBehind 64 = .ok (.ireturn, 1) := by decide +kernel
theorem dX0_slipBehind_65 : decode cX0_slipBehind 65 = .ok (.iinc 6 1, 3) := by decide +kernel
theorem dX0_slipBehind_68 : decode cX0_slipBehind 68 = .ok (.goto (-26), 3) := by decide +kernel
theorem dX0_slipBehind_71 : decode cX0_slipBehind 71 = .ok (.bipush (-9), 2) := by decide +kernel
theorem dX0_slipBehind_73 : decode cX0_slipBehind 73 = .ok (.ireturn, 1) := by decide +kernel
theorem dX0_otherOperation_0 : decode cX0_otherOperation 0 = .ok (.aload_n 0, 1) := by decide +kernel
theorem dX0_otherOperation_1 : decode cX0_otherOperation 1 = .ok (.getfield 11, 3) := by decide +kernel
theorem dX0_otherOperation_4 : decode cX0_otherOperation 4 = .ok (.iconst 1, 1) := by decide +kernel
theorem dX0_otherOperation_5 : decode cX0_otherOperation 5 = .ok (.if_icmp .eq 11, 3) := by decide +kernel
theorem dX0_otherOperation_8 : decode cX0_otherOperation 8 = .ok (.aload_n 0, 1) := by decide +kernel
theorem dX0_otherOperation_9 : decode cX0_otherOperation 9 = .ok (.getfield 11, 3) := by decide +kernel
theorem dX0_otherOperation_12 : decode cX0_otherOperation 12 = .ok (.iconst 2, 1) := by decide +kernel
theorem dX0_otherOperation_13 : decode cX0_otherOperation 13 = .ok (.if_icmp .ne 7, 3) := by decide +kernel
theorem dX0_otherOperation_16 : decode cX0_otherOperation 16 = .ok (.iload_n 1, 1) := by decide +kernel
theorem dX0_otherOperation_17 : decode cX0_otherOperation 17 = .ok (.iload_n 2, 1) := by decide +kernel
theorem dX0_otherOperation_18 : decode cX0_otherOperation 18 = .ok (.iadd, 1) := by decide +kernel
theorem dX0_otherOperation_19 : decode cX0_otherOperation 19 = .ok (.ireturn, 1) := by decide +kernel
theorem dX0_otherOperation_20 : decode cX0_otherOperation 20 = .ok (.iload_n 1, 1) := by decide +kernel
theorem dX0_otherOperation_21 : decode cX0_otherOperation 21 = .ok (.iload_n 2, 1) := by decide +kernel
theorem dX0_otherOperation_22 : decode cX0_otherOperation 22 = .ok (.if_icmp .lt 9, 3) := by decide +kernel
theorem dX0_otherOperation_25 : decode cX0_otherOperation 25 = .ok (.iload_n 1, 1) := by decide +kernel
theorem dX0_otherOperation_26 : decode cX0_otherOperation 26 = .ok (.iload_n 2, 1) := by decide +kernel
theorem dX0_otherOperation_27 : decode cX0_otherOperation 27 = .ok (.isub, 1) := by decide +kernel
theorem dX0_otherOperation_28 : decode cX0_otherOperation 28 = .ok (.goto 5, 3) := by decide +kernel
theorem dX0_otherOperation_31 : decode cX0_otherOperation 31 = .ok (.bipush (-9), 2) := by decide +kernel
theorem dX0_otherOperation_33 : decode cX0_otherOperation 33 = .ok (.ireturn, 1) := by decide +kernel
theorem dX0_withoutCarrying_0 : decode cX0_withoutCarrying 0 = .ok (.aload_n 0, 1) := by decide +kernel
theorem dX0_withoutCarrying_1 : decode cX0_withoutCarrying 1 = .ok (.getfield 11, 3) := by decide +kernel
theorem dX0_withoutCarrying_4 : decode cX0_withoutCarrying 4 = .ok (.ifCond .ne 10, 3) := by decide +kernel
theorem dX0_withoutCarrying_7 : decode cX0_withoutCarrying 7 = .ok (.iload_n 1, 1) := by decide +kernel
theorem dX0_withoutCarrying_8 : decode cX0_withoutCarrying 8 = .ok (.iload_n 2, 1) := by decide +kernel
theorem dX0_withoutCarrying_9 : decode cX0_withoutCarrying 9 = .ok (.iadd, 1) := by decide +kernel
theorem dX0_withoutCarrying_10 : decode cX0_withoutCarrying 10 = .ok (.bipush 10, 2) := by decide +kernel
theorem dX0_withoutCarrying_12 : decode cX0_withoutCarrying 12 = .ok (.isub, 1) := by decide +kernel
theorem dX0_withoutCarrying_13 : decode cX0_withoutCarrying 13 = .ok (.ireturn, 1) := by decide +kernel
theorem dX0_withoutCarrying_14 : decode cX0_withoutCarrying 14 = .ok (.iload_n 1, 1) := by decide +kernel
theorem dX0_withoutCarrying_15 : decode cX0_withoutCarrying 15 = .ok (.bipush 10, 2) := by decide +kernel
theorem dX0_withoutCarrying_17 : decode cX0_withoutCarrying 17 = .ok (.idiv, 1) := by decide +kernel
theorem dX0_withoutCarrying_18 : decode cX0_withoutCarrying 18 = .ok (.iload_n 2, 1) := by decide +kernel
theorem dX0_withoutCarrying_19 : decode cX0_withoutCarrying 19 = .ok (.bipush 10, 2) := by decide +kernel
theorem dX0_withoutCarrying_21 : decode cX0_withoutCarrying 21 = .ok (.idiv, 1) := by decide +kernel
theorem dX0_withoutCarrying_22 : decode cX0_withoutCarrying 22 = .ok (.isub, 1) := by decide +kernel
theorem dX0_withoutCarrying_23 : decode cX0_withoutCarrying 23 = .ok (.bipush 10, 2) := by decide +kernel
theorem dX0_withoutCarrying_25 : decode cX0_withoutCarrying 25 = .ok (.imul, 1) := by decide +kernel
theorem dX0_withoutCarrying_26 : decode cX0_withoutCarrying 26 = .ok (.iload_n 1, 1) := by decide +kernel
theorem dX0_withoutCarrying_27 : decode cX0_withoutCarrying 27 = .ok (.bipush 10, 2) := by decide +kernel
theorem dX0_withoutCarrying_29 : decode cX0_withoutCarrying 29 = .ok (.irem, 1) := by decide +kernel
theorem dX0_withoutCarrying_30 : decode cX0_withoutCarrying 30 = .ok (.iload_n 2, 1) := by decide +kernel
theorem dX0_withoutCarrying_31 : decode cX0_withoutCarrying 31 = .ok (.bipush 10, 2) := by decide +kernel
theorem dX0_withoutCarrying_33 : decode cX0_withoutCarrying 33 = .ok (.irem, 1) := by decide +kernel
theorem dX0_withoutCarrying_34 : decode cX0_withoutCarrying 34 = .ok (.isub, 1) := by decide +kernel
theorem dX0_withoutCarrying_35 : decode cX0_withoutCarrying 35 = .ok (.invokestatic 77, 3) := by decide +kernel
theorem dX0_withoutCarrying_38 : decode cX0_withoutCarrying 38 = .ok (.iadd, 1) := by decide +kernel
theorem dX0_withoutCarrying_39 : decode cX0_withoutCarrying 39 = .ok (.ireturn, 1) := by decide +kernel
theorem dX0_exchanged_0 : decode cX0_exchanged 0 = .ok (.iload_n 0, 1) := by decide +kernel
theorem dX0_exchanged_1 : decode cX0_exchanged 1 = .ok (.bipush 10, 2) := by decide +kernel
theorem dX0_exchanged_3 : decode cX0_exchanged 3 = .ok (.idiv, 1) := by decide +kernel
theorem dX0_exchanged_4 : decode cX0_exchanged 4 = .ok (.istore_n 1, 1) := by decide +kernel
theorem dX0_exchanged_5 : decode cX0_exchanged 5 = .ok (.iload_n 0, 1) := by decide +kernel
theorem dX0_exchanged_6 : decode cX0_exchanged 6 = .ok (.bipush 10, 2) := by decide +kernel
theorem dX0_exchanged_8 : decode cX0_exchanged 8 = .ok (.irem, 1) := by decide +kernel
theorem dX0_exchanged_9 : decode cX0_exchanged 9 = .ok (.istore_n 2, 1) := by decide +kernel
theorem dX0_exchanged_10 : decode cX0_exchanged 10 = .ok (.iload_n 1, 1) := by decide +kernel
theorem dX0_exchanged_11 : decode cX0_exchanged 11 = .ok (.iconst 1, 1) := by decide +kernel
theorem dX0_exchanged_12 : decode cX0_exchanged 12 = .ok (.if_icmp .lt 23, 3) := by decide +kernel
theorem dX0_exchanged_15 : decode cX0_exchanged 15 = .ok (.iload_n 1, 1) := by decide +kernel
theorem dX0_exchanged_16 : decode cX0_exchanged 16 = .ok (.bipush 9, 2) := by decide +kernel
theorem dX0_exchanged_18 : decode cX0_exchanged 18 = .ok (.if_icmp .gt 17, 3) := by decide +kernel
theorem dX0_exchanged_21 : decode cX0_exchanged 21 = .ok (.iload_n 1, 1) := by decide +kernel
theorem dX0_exchanged_22 : decode cX0_exchanged 22 = .ok (.iload_n 2, 1) := by decide +kernel
theorem dX0_exchanged_23 : decode cX0_exchanged 23 = .ok (.if_icmp .eq 12, 3) := by decide +kernel
theorem dX0_exchanged_26 : decode cX0_exchanged 26 = .ok (.iload_n 2, 1) := by decide +kernel
theorem dX0_exchanged_27 : decode cX0_exchanged 27 = .ok (.bipush 10, 2) := by decide +kernel
theorem dX0_exchanged_29 : decode cX0_exchanged 29 = .ok (.imul, 1) := by decide +kernel
theorem dX0_exchanged_30 : decode cX0_exchanged 30 = .ok (.iload_n 1, 1) := by decide +kernel
theorem dX0_exchanged_31 : decode cX0_exchanged 31 = .ok (.iadd, 1) := by decide +kernel
theorem dX0_exchanged_32 : decode cX0_exchanged 32 = .ok (.goto 5, 3) := by decide +kernel
theorem dX0_exchanged_35 : decode cX0_exchanged 35 = .ok (.bipush (-9), 2) := by decide +kernel
theorem dX0_exchanged_37 : decode cX0_exchanged 37 = .ok (.ireturn, 1) := by decide +kernel
theorem dX0_addPlace_0 : decode cX0_addPlace 0 = .ok (.aload_n 0, 1) := by decide +kernel
theorem dX0_addPlace_1 : decode cX0_addPlace 1 = .ok (.dup, 1) := by decide +kernel
theorem dX0_addPlace_2 : decode cX0_addPlace 2 = .ok (.getfield 31, 3) := by decide +kernel
theorem dX0_addPlace_5 : decode cX0_addPlace 5 = .ok (.iconst 1, 1) := by decide +kernel
theorem dX0_addPlace_6 : decode cX0_addPlace 6 = .ok (.iadd, 1) := by decide +kernel
theorem dX0_addPlace_7 : decode cX0_addPlace 7 = .ok (.putfield 31, 3) := by decide +kernel
theorem dX0_addPlace_10 : decode cX0_addPlace 10 = .ok (.aload_n 0, 1) := by decide +kernel
theorem dX0_addPlace_11 : decode cX0_addPlace 11 = .ok (.getfield 31, 3) := by decide +kernel
theorem dX0_addPlace_14 : decode cX0_addPlace 14 = .ok (.iconst 1, 1) := by decide +kernel
theorem dX0_addPlace_15 : decode cX0_addPlace 15 = .ok (.isub, 1) := by decide +kernel
theorem dX0_addPlace_16 : decode cX0_addPlace 16 = .ok (.ireturn, 1) := by decide +kernel
theorem dX0_dropPlaces_0 : decode cX0_dropPlaces 0 = .ok (.aload_n 0, 1) := by decide +kernel
theorem dX0_dropPlaces_1 : decode cX0_dropPlaces 1 = .ok (.iconst 0, 1) := by decide +kernel
theorem dX0_dropPlaces_2 : decode cX0_dropPlaces 2 = .ok (.putfield 31, 3) := by decide +kernel
theorem dX0_dropPlaces_5 : decode cX0_dropPlaces 5 = .ok (.return_, 1) := by decide +kernel
theorem dX0_hasEnoughForTwo_0 : decode cX0_hasEnoughForTwo 0 = .ok (.aload_n 0, 1) := by decide +kernel
theorem dX0_hasEnoughForTwo_1 : decode cX0_hasEnoughForTwo 1 = .ok (.getfield 28, 3) := by decide +kernel
theorem dX0_hasEnoughForTwo_4 : decode cX0_hasEnoughForTwo 4 = .ok (.iconst 2, 1) := by decide +kernel
theorem dX0_hasEnoughForTwo_5 : decode cX0_hasEnoughForTwo 5 = .ok (.aload_n 0, 1) := by decide +kernel
theorem dX0_hasEnoughForTwo_6 : decode cX0_hasEnoughForTwo 6 = .ok (.getfield 31, 3) := by decide +kernel
theorem dX0_hasEnoughForTwo_9 : decode cX0_hasEnoughForTwo 9 = .ok (.imul, 1) := by decide +kernel
theorem dX0_hasEnoughForTwo_10 : decode cX0_hasEnoughForTwo 10 = .ok (.if_icmp .lt 7, 3) := by decide +kernel
theorem dX0_hasEnoughForTwo_13 : decode cX0_hasEnoughForTwo 13 = .ok (.iconst 1, 1) := by decide +kernel
theorem dX0_hasEnoughForTwo_14 : decode cX0_hasEnoughForTwo 14 = .ok (.goto 4, 3) := by decide +kernel
theorem dX0_hasEnoughForTwo_17 : decode cX0_hasEnoughForTwo 17 = .ok (.iconst 0, 1) := by decide +kernel
theorem dX0_hasEnoughForTwo_18 : decode cX0_hasEnoughForTwo 18 = .ok (.ireturn, 1) := by decide +kernel
theorem dX0_variantFor_0 : decode cX0_variantFor 0 = .ok (.aload_n 0, 1) := by decide +kernel
theorem dX0_variantFor_1 : decode cX0_variantFor 1 = .ok (.getfield 28, 3) := by decide +kernel
theorem dX0_variantFor_4 : decode cX0_variantFor 4 = .ok (.ifCond .le 26, 3) := by decide +kernel
theorem dX0_variantFor_7 : decode cX0_variantFor 7 = .ok (.iload_n 1, 1) := by decide +kernel
theorem dX0_variantFor_8 : decode cX0_variantFor 8 = .ok (.aload_n 0, 1) := by decide +kernel
theorem dX0_variantFor_9 : decode cX0_variantFor 9 = .ok (.getfield 31, 3) := by decide +kernel
theorem dX0_variantFor_12 : decode cX0_variantFor 12 = .ok (.imul, 1) := by decide +kernel
theorem dX0_variantFor_13 : decode cX0_variantFor 13 = .ok (.iload_n 2, 1) := by decide +kernel
theorem dX0_variantFor_14 : decode cX0_variantFor 14 = .ok (.iadd, 1) := by decide +kernel
theorem dX0_variantFor_15 : decode cX0_variantFor 15 = .ok (.aload_n 0, 1) := by decide +kernel
theorem dX0_variantFor_16 : decode cX0_variantFor 16 = .ok (.getfield 22, 3) := by decide +kernel
theorem dX0_variantFor_19 : decode cX0_variantFor 19 = .ok (.iconst 2, 1) := by decide +kernel
theorem dX0_variantFor_20 : decode cX0_variantFor 20 = .ok (.iaload, 1) := by decide +kernel
theorem dX0_variantFor_21 : decode cX0_variantFor 21 = .ok (.iadd, 1) := by decide +kernel
theorem dX0_variantFor_22 : decode cX0_variantFor 22 = .ok (.aload_n 0, 1) := by decide +kernel
theorem dX0_variantFor_23 : decode cX0_variantFor 23 = .ok (.getfield 28, 3) := by decide +kernel
theorem dX0_variantFor_26 : decode cX0_variantFor 26 = .ok (.irem, 1) := by decide +kernel
theorem dX0_variantFor_27 : decode cX0_variantFor 27 = .ok (.goto 5, 3) := by decide +kernel
theorem dX0_variantFor_30 : decode cX0_variantFor 30 = .ok (.bipush (-9), 2) := by decide +kernel
theorem dX0_variantFor_32 : decode cX0_variantFor 32 = .ok (.ireturn, 1) := by decide +kernel
set_option maxRecDepth 20000 in
theorem ggX0_placesInCommon_J9_floorMod_7cf53 : GoodIn wsX0_placesInCommon wsJ9_floorMod_7cf53 := goodIn_r _ [6] (by decide +kernel) (by decide +kernel)
set_option maxRecDepth 20000 in
theorem gX0_placesInCommon_J9_floorMod_7cf53 : GoodIn wsX0_placesInCommon (va_wsS RX0 82 yJ9_floorMod_7cf53 wsJ9_floorMod_7cf53) := goodIn_app (goodIn_of _ (by decide +kernel)) ggX0_placesInCommon_J9_floorMod_7cf53
theorem dX0_placesInCommon_0 : decode cX0_placesInCommon 0 = .ok (.aload_n 0, 1) := by decide +kernel
theorem dX0_placesInCommon_1 : decode cX0_placesInCommon 1 = .ok (.getfield 28, 3) := by decide +kernel
theorem dX0_placesInCommon_4 : decode cX0_placesInCommon 4 = .ok (.iconst 1, 1) := by decide +kernel
theorem dX0_placesInCommon_5 : decode cX0_placesInCommon 5 = .ok (.if_icmp .ge 5, 3) := by decide +kernel
theorem dX0_placesInCommon_8 : decode cX0_placesInCommon 8 = .ok (.iconst 0, 1) := by decide +kernel
theorem dX0_placesInCommon_9 : decode cX0_placesInCommon 9 = .ok (.ireturn, 1) := by decide +kernel
theorem dX0_placesInCommon_10 : decode cX0_placesInCommon 10 = .ok (.iload_n 1, 1) := by decide +kernel
theorem dX0_placesInCommon_11 : decode cX0_placesInCommon 11 = .ok (.iload_n 2, 1) := by decide +kernel
theorem dX0_placesInCommon_12 : decode cX0_placesInCommon 12 = .ok (.isub, 1) := by decide +kernel
theorem dX0_placesInCommon_13 : decode cX0_placesInCommon 13 = .ok (.aload_n 0, 1) := by decide +kernel
theorem dX0_placesInCommon_14 : decode cX0_placesInCommon 14 = .ok (.getfield 31, 3) := by decide +kernel
theorem dX0_placesInCommon_17 : decode cX0_placesInCommon 17 = .ok (.imul, 1) := by decide +kernel
theorem dX0_placesInCommon_18 : decode cX0_placesInCommon 18 = .ok (.aload_n 0, 1) := by decide +kernel
theorem dX0_placesInCommon_19 : decode cX0_placesInCommon 19 = .ok (.getfield 28, 3) := by decide +kernel
theorem dX0_placesInCommon_22 : decode cX0_placesInCommon 22 = .ok (.invokestatic 82, 3) := by decide +kernel
theorem dX0_placesInCommon_25 : decode cX0_placesInCommon 25 = .ok (.istore_n 3, 1) := by decide +kernel
theorem dX0_placesInCommon_26 : decode cX0_placesInCommon 26 = .ok (.iconst 0, 1) := by decide +kernel
theorem dX0_placesInCommon_27 : decode cX0_placesInCommon 27 = .ok (.istore 4, 2) := by decide +kernel
theorem dX0_placesInCommon_29 : decode cX0_placesInCommon 29 = .ok (.iconst 0, 1) := by decide +kernel
theorem dX0_placesInCommon_30 : decode cX0_placesInCommon 30 = .ok (.istore 5, 2) := by decide +kernel
theorem dX0_placesInCommon_32 : decode cX0_placesInCommon 32 = .ok (.iload 5, 2) := by decide +kernel
theorem dX0_placesInCommon_34 : decode cX0_placesInCommon 34 = .ok (.aload_n 0, 1) := by decide +kernel
theorem dX0_placesInCommon_35 : decode cX0_placesInCommon 35 = .ok (.getfield 31, 3) := by decide +kernel
theorem dX0_placesInCommon_38 : decode cX0_placesInCommon 38 = .ok (.if_icmp .ge 28, 3) := by decide +kernel
theorem dX0_placesInCommon_41 : decode cX0_placesInCommon 41 = .ok (.iload_n 3, 1) := by decide +kernel
theorem dX0_placesInCommon_42 : decode cX0_placesInCommon 42 = .ok (.iload 5, 2) := by decide +kernel
theorem dX0_placesInCommon_44 : decode cX0_placesInCommon 44 = .ok (.iadd, 1) := by decide +kernel
theorem dX0_placesInCommon_45 : decode cX0_placesInCommon 45 = .ok (.aload_n 0, 1) := by decide +kernel
theorem dX0_placesInCommon_46 : decode cX0_placesInCommon 46 = .ok (.getfield 28, 3) := by decide +kernel
theorem dX0_placesInCommon_49 : decode cX0_placesInCommon 49 = .ok (.irem, 1) := by decide +kernel
theorem dX0_placesInCommon_50 : decode cX0_placesInCommon 50 = .ok (.aload_n 0, 1) := by decide +kernel
theorem dX0_placesInCommon_51 : decode cX0_placesInCommon 51 = .ok (.getfield 31, 3) := by decide +kernel
theorem dX0_placesInCommon_54 : decode cX0_placesInCommon 54 = .ok (.if_icmp .ge 6, 3) := by decide +kernel
theorem dX0_placesInCommon_57 : decode cX0_placesInCommon 57 = .ok (.iinc 4 1, 3) := by decide +kernel
theorem dX0_placesInCommon_60 : decode cX0_placesInCommon 60 = .ok (.iinc 5 1, 3) := by decide +kernel
theorem dX0_placesInCommon_63 : decode cX0_placesInCommon 63 = .ok (.goto (-31), 3) := by decide +kernel
theorem dX0_placesInCommon_66 : decode cX0_placesInCommon 66 = .ok (.iload 4, 2) := by decide +kernel
theorem dX0_placesInCommon_68 : decode cX0_placesInCommon 68 = .ok (.ireturn, 1) := by decide +kernel
set_option maxRecDepth 20000 in
theorem ggX1_init_X0_init : GoodIn wsX1_init wsX0_init := goodIn_r _ [22, 23, 2, 3, 24, 7, 25, 26, 27, 28, 29, 30, 43, 44, 45, 46, 47, 48, 49] (by decide +kernel) (by decide +kernel)
set_option maxRecDepth 20000 in
theorem gX1_init_X0_init : GoodIn wsX1_init (wsX0_init) := ggX1_init_X0_init
theorem dX1_init_0 : decode cX1_init 0 = .ok (.aload_n 0, 1) := by decide +kernel
theorem dX1_init_1 : decode cX1_init 1 = .ok (.invokespecial 1, 3) := by decide +kernel
theorem dX1_init_4 : decode cX1_init 4 = .ok (.aload_n 0, 1) := by decide +kernel
theorem dX1_init_5 : decode cX1_init 5 = .ok (.bipush 8, 2) := by decide +kernel
theorem dX1_init_7 : decode cX1_init 7 = .ok (.anewarray 9, 3) := by decide +kernel
theorem dX1_init_10 : decode cX1_init 10 = .ok (.putfield 11, 3) := by decide +kernel
theorem dX1_init_13 : decode cX1_init 13 = .ok (.aload_n 0, 1) := by decide +kernel
theorem dX1_init_14 : decode cX1_init 14 = .ok (.iconst 0, 1) := by decide +kernel
theorem dX1_init_15 : decode cX1_init 15 = .ok (.putfield 15, 3) := by decide +kernel
theorem dX1_init_18 : decode cX1_init 18 = .ok (.aload_n 0, 1) := by decide +kernel
theorem dX1_init_19 : decode cX1_init 19 = .ok (.bipush 40, 2) := by decide +kernel
theorem dX1_init_21 : decode cX1_init 21 = .ok (.newarray .int, 2) := by decide +kernel
theorem dX1_init_23 : decode cX1_init 23 = .ok (.putfield 19, 3) := by decide +kernel
theorem dX1_init_26 : decode cX1_init 26 = .ok (.aload_n 0, 1) := by decide +kernel
theorem dX1_init_27 : decode cX1_init 27 = .ok (.bipush 40, 2) := by decide +kernel
theorem dX1_init_29 : decode cX1_init 29 = .ok (.newarray .int, 2) := by decide +kernel
theorem dX1_init_31 : decode cX1_init 31 = .ok (.putfield 23, 3) := by decide +kernel
theorem dX1_init_34 : decode cX1_init 34 = .ok (.aload_n 0, 1) := by decide +kernel
theorem dX1_init_35 : decode cX1_init 35 = .ok (.iconst 0, 1) := by decide +kernel
theorem dX1_init_36 : decode cX1_init 36 = .ok (.putfield 26, 3) := by decide +kernel
theorem dX1_init_39 : decode cX1_init 39 = .ok (.aload_n 0, 1) := by decide +kernel
theorem dX1_init_40 : decode cX1_init 40 = .ok (.bipush 20, 2) := by decide +kernel
theorem dX1_init_42 : decode cX1_init 42 = .ok (.putfield 29, 3) := by decide +kernel
theorem dX1_init_45 : decode cX1_init 45 = .ok (.aload_n 0, 1) := by decide +kernel
theorem dX1_init_46 : decode cX1_init 46 = .ok (.iconst 1, 1) := by decide +kernel
theorem dX1_init_47 : decode cX1_init 47 = .ok (.putfield 32, 3) := by decide +kernel
theorem dX1_init_50 : decode cX1_init 50 = .ok (.aload_n 0, 1) := by decide +kernel
theorem dX1_init_51 : decode cX1_init 51 = .ok (.iconst 1, 1) := by decide +kernel
theorem dX1_init_52 : decode cX1_init 52 = .ok (.putfield 35, 3) := by decide +kernel
theorem dX1_init_55 : decode cX1_init 55 = .ok (.aload_n 0, 1) := by decide +kernel
theorem dX1_init_56 : decode cX1_init 56 = .ok (.iconst 0, 1) := by decide +kernel
theorem dX1_init_57 : decode cX1_init 57 = .ok (.putfield 38, 3) := by decide +kernel
theorem dX1_init_60 : decode cX1_init 60 = .ok (.aload_n 0, 1) := by decide +kernel
theorem dX1_init_61 : decode cX1_init 61 = .ok (.sipush 512, 3) := by decide +kernel
theorem dX1_init_64 : decode cX1_init 64 = .ok (.newarray .int, 2) := by decide +kernel
theorem dX1_init_66 : decode cX1_init 66 = .ok (.putfield 41, 3) := by decide +kernel
theorem dX1_init_69 : decode cX1_init 69 = .ok (.aload_n 0, 1) := by decide +kernel
theorem dX1_init_70 : decode cX1_init 70 = .ok (.iconst 0, 1) := by decide +kernel
theorem dX1_init_71 : decode cX1_init 71 = .ok (.putfield 44, 3) := by decide +kernel
theorem dX1_init_74 : decode cX1_init 74 = .ok (.aload_n 0, 1) := by decide +kernel
theorem dX1_init_75 : decode cX1_init 75 = .ok (.iconst 0, 1) := by decide +kernel
theorem dX1_init_76 : decode cX1_init 76 = .ok (.putfield 47, 3) := by decide +kernel
theorem dX1_init_79 : decode cX1_init 79 = .ok (.iconst 0, 1) := by decide +kernel
theorem dX1_init_80 : decode cX1_init 80 = .ok (.istore_n 1, 1) := by decide +kernel
theorem dX1_init_81 : decode cX1_init 81 = .ok (.iload_n 1, 1) := by decide +kernel
theorem dX1_init_82 : decode cX1_init 82 = .ok (.bipush 8, 2) := by decide +kernel
theorem dX1_init_84 : decode cX1_init 84 = .ok (.if_icmp .ge 22, 3) := by decide +kernel
theorem dX1_init_87 : decode cX1_init 87 = .ok (.aload_n 0, 1) := by decide +kernel
theorem dX1_init_88 : decode cX1_init 88 = .ok (.getfield 11, 3) := by decide +kernel
theorem dX1_init_91 : decode cX1_init 91 = .ok (.iload_n 1, 1) := by decide +kernel
theorem dX1_init_92 : decode cX1_init 92 = .ok (.new 9, 3) := by decide +kernel
theorem dX1_init_95 : decode cX1_init 95 = .ok (.dup, 1) := by decide +kernel
theorem dX1_init_96 : decode cX1_init 96 = .ok (.invokespecial 50, 3) := by decide +kernel
theorem dX1_init_99 : decode cX1_init 99 = .ok (.aastore, 1) := by decide +kernel
theorem dX1_init_100 : decode cX1_init 100 = .ok (.iinc 1 1, 3) := by decide +kernel
theorem dX1_init_103 : decode cX1_init 103 = .ok (.goto (-22), 3) := by decide +kernel
theorem dX1_init_106 : decode cX1_init 106 = .ok (.return_, 1) := by decide +kernel
set_option maxRecDepth 20000 in
theorem ggX1_kind_X0_open : GoodIn wsX1_kind wsX0_open := goodIn_r _ [7, 8, 9, 10, 11, 6, 12, 13, 14, 15, 16, 17, 18, 19, 20, 21, 22, 23, 24, 25, 26, 27, 28, 29, 30, 31, 32, 33, 34, 35, 36, 37, 50, 51, 52, 53, 54, 55, 56] (by decide +kernel) (by decide +kernel)
set_option maxRecDepth 20000 in
theorem gX1_kind_X0_open : GoodIn wsX1_kind (wsV RX1 51 RX0 yX0_open wsX0_open) := goodIn_app (goodIn_of _ (by decide +kernel)) ggX1_kind_X0_open
theorem dX1_kind_0 : decode cX1_kind 0 = .ok (.iload_n 1, 1) := by decide +kernel
theorem dX1_kind_1 : decode cX1_kind 1 = .ok (.ifCond .lt 8, 3) := by decide +kernel
theorem dX1_kind_4 : decode cX1_kind 4 = .ok (.iload_n 1, 1) := by decide +kernel
theorem dX1_kind_5 : decode cX1_kind 5 = .ok (.iconst 3, 1) := by decide +kernel
theorem dX1_kind_6 : decode cX1_kind 6 = .ok (.if_icmp .le 6, 3) := by decide +kernel
theorem dX1_kind_9 : decode cX1_kind 9 = .ok (.bipush (-2), 2) := by decide +kernel
theorem dX1_kind_11 : decode cX1_kind 11 = .ok (.ireturn, 1) := by decide +kernel
theorem dX1_kind_12 : decode cX1_kind 12 = .ok (.aload_n 0, 1) := by decide +kernel
theorem dX1_kind_13 : decode cX1_kind 13 = .ok (.getfield 15, 3) := by decide +kernel
theorem dX1_kind_16 : decode cX1_kind 16 = .ok (.bipush 8, 2) := by decide +kernel
theorem dX1_kind_18 : decode cX1_kind 18 = .ok (.if_icmp .ne 6, 3) := by decide +kernel
theorem dX1_kind_21 : decode cX1_kind 21 = .ok (.bipush (-4), 2) := by decide +kernel
theorem dX1_kind_23 : decode cX1_kind 23 = .ok (.ireturn, 1) := by decide +kernel
theorem dX1_kind_24 : decode cX1_kind 24 = .ok (.aload_n 0, 1) := by decide +kernel
theorem dX1_kind_25 : decode cX1_kind 25 = .ok (.getfield 11, 3) := by decide +kernel
theorem dX1_kind_28 : decode cX1_kind 28 = .ok (.aload_n 0, 1) := by decide +kernel
theorem dX1_kind_29 : decode cX1_kind 29 = .ok (.getfield 15, 3) := by decide +kernel
theorem dX1_kind_32 : decode cX1_kind 32 = .ok (.aaload, 1) := by decide +kernel
theorem dX1_kind_33 : decode cX1_kind 33 = .ok (.iload_n 1, 1) := by decide +kernel
theorem dX1_kind_34 : decode cX1_kind 34 = .ok (.invokevirtual 51, 3) := by decide +kernel
theorem dX1_kind_37 : decode cX1_kind 37 = .ok (.aload_n 0, 1) := by decide +kernel
theorem dX1_kind_38 : decode cX1_kind 38 = .ok (.dup, 1) := by decide +kernel
theorem dX1_kind_39 : decode cX1_kind 39 = .ok (.getfield 15, 3) := by decide +kernel
theorem dX1_kind_42 : decode cX1_kind 42 = .ok (.iconst 1, 1) := by decide +kernel
theorem dX1_kind_43 : decode cX1_kind 43 = .ok (.iadd, 1) := by decide +kernel
theorem dX1_kind_44 : decode cX1_kind 44 = .ok (.putfield 15, 3) := by decide +kernel
theorem dX1_kind_47 : decode cX1_kind 47 = .ok (.aload_n 0, 1) := by decide +kernel
theorem dX1_kind_48 : decode cX1_kind 48 = .ok (.getfield 15, 3) := by decide +kernel
theorem dX1_kind_51 : decode cX1_kind 51 = .ok (.iconst 1, 1) := by decide +kernel
theorem dX1_kind_52 : decode cX1_kind 52 = .ok (.isub, 1) := by decide +kernel
theorem dX1_kind_53 : decode cX1_kind 53 = .ok (.ireturn, 1) := by decide +kernel
set_option maxRecDepth 20000 in
theorem ggX1_range_X1_isKind : GoodIn wsX1_range wsX1_isKind := goodIn_r _ [6, 7, 51, 52, 53, 54, 55, 56, 57, 58, 59, 60, 61, 62] (by decide +kernel) (by decide +kernel)
set_option maxRecDepth 20000 in
theorem gX1_range_X1_isKind : GoodIn wsX1_range (wsV RX1 55 RX1 yX1_isKind wsX1_isKind) := goodIn_app (goodIn_of _ (by decide +kernel)) ggX1_range_X1_isKind
set_option maxRecDepth 20000 in
theorem ggX1_range_X0_isRange : GoodIn wsX1_range wsX0_isRange := goodIn_r _ [11, 12] (by decide +kernel) (by decide +kernel)
set_option maxRecDepth 20000 in
theorem gX1_range_X0_isRange : GoodIn wsX1_range (va_wsS RX1 59 yX0_isRange wsX0_isRange) := goodIn_app (goodIn_of _ (by decide +kernel)) ggX1_range_X0_isRange
set_option maxRecDepth 20000 in
theorem ggX1_range_X0_setRange : GoodIn wsX1_range wsX0_setRange := goodIn_r _ [16, 17, 18, 19, 20, 21, 10, 22, 23, 24, 25, 26, 27, 28, 29, 30, 31, 32, 33, 34, 35, 36, 37, 38, 39, 40, 41, 42, 43, 44, 45, 46, 63, 64, 65, 66, 67, 68, 69] (by decide +kernel) (by decide +kernel)
set_option maxRecDepth 20000 in
theorem gX1_range_X0_setRange : GoodIn wsX1_range (wsV RX1 63 RX0 yX0_setRange wsX0_setRange) := goodIn_app (goodIn_of _ (by decide +kernel)) ggX1_range_X0_setRange
set_option maxRecDepth 20000 in
theorem ggX1_range_X0_size : GoodIn wsX1_range wsX0_size := goodIn_r _ [50, 23, 63, 64, 65, 66, 67, 68, 69] (by decide +kernel) (by decide +kernel)
set_option maxRecDepth 20000 in
theorem gX1_range_X0_size : GoodIn wsX1_range (wsV RX1 67 RX0 yX0_size wsX0_size) := goodIn_app (goodIn_of _ (by decide +kernel)) ggX1_range_X0_size
theorem dX1_range_0 : decode cX1_range 0 = .ok (.aload_n 0, 1) := by decide +kernel
theorem dX1_range_1 : decode cX1_range 1 = .ok (.iload_n 1, 1) := by decide +kernel
theorem dX1_range_2 : decode cX1_range 2 = .ok (.invokevirtual 55, 3) := by decide +kernel
theorem dX1_range_5 : decode cX1_range 5 = .ok (.ifCond .ne 5, 3) := by decide +kernel
theorem dX1_range_8 : decode cX1_range 8 = .ok (.iconst (-1), 1) := by decide +kernel
theorem dX1_range_9 : decode cX1_range 9 = .ok (.ireturn, 1) := by decide +kernel
theorem dX1_range_10 : decode cX1_range 10 = .ok (.iload_n 2, 1) := by decide +kernel
theorem dX1_range_11 : decode cX1_range 11 = .ok (.iload_n 3, 1) := by decide +kernel
theorem dX1_range_12 : decode cX1_range 12 = .ok (.iload 4, 2) := by decide +kernel
theorem dX1_range_14 : decode cX1_range 14 = .ok (.invokestatic 59, 3) := by decide +kernel
theorem dX1_range_17 : decode cX1_range 17 = .ok (.ifCond .ne 6, 3) := by decide +kernel
theorem dX1_range_20 : decode cX1_range 20 = .ok (.bipush (-2), 2) := by decide +kernel
theorem dX1_range_22 : decode cX1_range 22 = .ok (.ireturn, 1) := by decide +kernel
theorem dX1_range_23 : decode cX1_range 23 = .ok (.aload_n 0, 1) := by decide +kernel
theorem dX1_range_24 : decode cX1_range 24 = .ok (.getfield 11, 3) := by decide +kernel
theorem dX1_range_27 : decode cX1_range 27 = .ok (.iload_n 1, 1) := by decide +kernel
theorem dX1_range_28 : decode cX1_range 28 = .ok (.aaload, 1) := by decide +kernel
theorem dX1_range_29 : decode cX1_range 29 = .ok (.iload_n 2, 1) := by decide +kernel
theorem dX1_range_30 : decode cX1_range 30 = .ok (.iload_n 3, 1) := by decide +kernel
theorem dX1_range_31 : decode cX1_range 31 = .ok (.iload 4, 2) := by decide +kernel
theorem dX1_range_33 : decode cX1_range 33 = .ok (.invokevirtual 63, 3) := by decide +kernel
theorem dX1_range_36 : decode cX1_range 36 = .ok (.aload_n 0, 1) := by decide +kernel
theorem dX1_range_37 : decode cX1_range 37 = .ok (.getfield 11, 3) := by decide +kernel
theorem dX1_range_40 : decode cX1_range 40 = .ok (.iload_n 1, 1) := by decide +kernel
theorem dX1_range_41 : decode cX1_range 41 = .ok (.aaload, 1) := by decide +kernel
theorem dX1_range_42 : decode cX1_range 42 = .ok (.invokevirtual 67, 3) := by decide +kernel
theorem dX1_range_45 : decode cX1_range 45 = .ok (.ireturn, 1) := by decide +kernel
set_option maxRecDepth 20000 in
theorem ggX1_rule_X1_isKind : GoodIn wsX1_rule wsX1_isKind := goodIn_r _ [6, 7, 48, 49, 50, 51, 52, 53, 54, 55, 56, 57, 58, 59] (by decide +kernel) (by decide +kernel)
set_option maxRecDepth 20000 in
theorem gX1_rule_X1_isKind : GoodIn wsX1_rule (wsV RX1 55 RX1 yX1_isKind wsX1_isKind) := goodIn_app (goodIn_of _ (by decide +kernel)) ggX1_rule_X1_isKind
set_option maxRecDepth 20000 in
theorem ggX1_rule_X0_isRule : GoodIn wsX1_rule wsX0_isRule := goodIn_r _ [11, 12, 13] (by decide +kernel) (by decide +kernel)
set_option maxRecDepth 20000 in
theorem gX1_rule_X0_isRule : GoodIn wsX1_rule (va_wsS RX1 71 yX0_isRule wsX0_isRule) := goodIn_app (goodIn_of _ (by decide +kernel)) ggX1_rule_X0_isRule
set_option maxRecDepth 20000 in
theorem ggX1_rule_X0_setRule : GoodIn wsX1_rule wsX0_setRule := goodIn_r _ [17, 18, 19, 20, 21, 10, 22, 23, 24, 25, 26, 27, 28, 29, 30, 31, 32, 33, 34, 35, 36, 37, 38, 39, 40, 41, 42, 43, 44, 45, 46, 47, 60, 61, 62, 63, 64, 65, 66] (by decide +kernel) (by decide +kernel)
set_option maxRecDepth 20000 in
theorem gX1_rule_X0_setRule : GoodIn wsX1_rule (wsV RX1 75 RX0 yX0_setRule wsX0_setRule) := goodIn_app (goodIn_of _ (by decide +kernel)) ggX1_rule_X0_setRule
theorem dX1_rule_0 : decode cX1_rule 0 = .ok (.aload_n 0, 1) := by decide +kernel
theorem dX1_rule_1 : decode cX1_rule 1 = .ok (.iload_n 1, 1) := by decide +kernel
theorem dX1_rule_2 : decode cX1_rule 2 = .ok (.invokevirtual 55, 3) := by decide +kernel
theorem dX1_rule_5 : decode cX1_rule 5 = .ok (.ifCond .ne 5, 3) := by decide +kernel
theorem dX1_rule_8 : decode cX1_rule 8 = .ok (.iconst (-1), 1) := by decide +kernel
theorem dX1_rule_9 : decode cX1_rule 9 = .ok (.ireturn, 1) := by decide +kernel
theorem dX1_rule_10 : decode cX1_rule 10 = .ok (.iload_n 2, 1) := by decide +kernel
theorem dX1_rule_11 : decode cX1_rule 11 = .ok (.iload_n 3, 1) := by decide +kernel
theorem dX1_rule_12 : decode cX1_rule 12 = .ok (.invokestatic 71, 3) := by decide +kernel
theorem dX1_rule_15 : decode cX1_rule 15 = .ok (.ifCond .ne 6, 3) := by decide +kernel
theorem dX1_rule_18 : decode cX1_rule 18 = .ok (.bipush (-2), 2) := by decide +kernel
theorem dX1_rule_20 : decode cX1_rule 20 = .ok (.ireturn, 1) := by decide +kernel
theorem dX1_rule_21 : decode cX1_rule 21 = .ok (.aload_n 0, 1) := by decide +kernel
theorem dX1_rule_22 : decode cX1_rule 22 = .ok (.getfield 11, 3) := by decide +kernel
