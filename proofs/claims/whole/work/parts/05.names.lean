theorem dX1_mark_100 : decode cX1_mark 100 = .ok (.iaload, 1) := by decide +kernel
theorem dX1_mark_101 : decode cX1_mark 101 = .ok (.iconst 1, 1) := by decide +kernel
theorem dX1_mark_102 : decode cX1_mark 102 = .ok (.iadd, 1) := by decide +kernel
theorem dX1_mark_103 : decode cX1_mark 103 = .ok (.iastore, 1) := by decide +kernel
theorem dX1_mark_104 : decode cX1_mark 104 = .ok (.iload 5, 2) := by decide +kernel
theorem dX1_mark_106 : decode cX1_mark 106 = .ok (.ireturn, 1) := by decide +kernel
set_option maxRecDepth 20000 in
theorem ggX1_missed_X1_isSeat : GoodIn wsX1_missed wsX1_isSeat := goodIn_r _ [6, 7, 8, 22, 23, 24, 25, 26, 27, 28, 29, 30, 31, 32, 33] (by decide +kernel) (by decide +kernel)
set_option maxRecDepth 20000 in
theorem gX1_missed_X1_isSeat : GoodIn wsX1_missed (wsV RX1 145 RX1 yX1_isSeat wsX1_isSeat) := goodIn_app (goodIn_of _ (by decide +kernel)) ggX1_missed_X1_isSeat
set_option maxRecDepth 20000 in
theorem ggX1_missed_X1_isKind : GoodIn wsX1_missed wsX1_isKind := goodIn_r _ [12, 13, 22, 23, 24, 25, 26, 27, 28, 29, 30, 31, 32, 33] (by decide +kernel) (by decide +kernel)
set_option maxRecDepth 20000 in
theorem gX1_missed_X1_isKind : GoodIn wsX1_missed (wsV RX1 55 RX1 yX1_isKind wsX1_isKind) := goodIn_app (goodIn_of _ (by decide +kernel)) ggX1_missed_X1_isKind
set_option maxRecDepth 20000 in
theorem ggX1_missed_X1_missesAt : GoodIn wsX1_missed wsX1_missesAt := goodIn_r _ [17, 1, 18, 19, 20, 5, 21, 22, 23, 24, 25, 26, 27, 28, 29, 30, 31, 32, 33] (by decide +kernel) (by decide +kernel)
set_option maxRecDepth 20000 in
theorem gX1_missed_X1_missesAt : GoodIn wsX1_missed (wsV RX1 159 RX1 yX1_missesAt wsX1_missesAt) := goodIn_app (goodIn_of _ (by decide +kernel)) ggX1_missed_X1_missesAt
set_option maxRecDepth 20000 in
theorem ggX1_missed_X1_missesFrom : GoodIn wsX1_missed wsX1_missesFrom := goodIn_r _ [21] (by decide +kernel) (by decide +kernel)
set_option maxRecDepth 20000 in
theorem gX1_missed_X1_missesFrom : GoodIn wsX1_missed (wsV RX1 156 RX1 yX1_missesFrom wsX1_missesFrom) := goodIn_app (goodIn_of _ (by decide +kernel)) ggX1_missed_X1_missesFrom
theorem dX1_missed_0 : decode cX1_missed 0 = .ok (.aload_n 0, 1) := by decide +kernel
theorem dX1_missed_1 : decode cX1_missed 1 = .ok (.iload_n 1, 1) := by decide +kernel
theorem dX1_missed_2 : decode cX1_missed 2 = .ok (.invokevirtual 145, 3) := by decide +kernel
theorem dX1_missed_5 : decode cX1_missed 5 = .ok (.ifCond .eq 17, 3) := by decide +kernel
theorem dX1_missed_8 : decode cX1_missed 8 = .ok (.iload_n 2, 1) := by decide +kernel
theorem dX1_missed_9 : decode cX1_missed 9 = .ok (.bipush (-9), 2) := by decide +kernel
theorem dX1_missed_11 : decode cX1_missed 11 = .ok (.if_icmp .eq 13, 3) := by decide +kernel
theorem dX1_missed_14 : decode cX1_missed 14 = .ok (.aload_n 0, 1) := by decide +kernel
theorem dX1_missed_15 : decode cX1_missed 15 = .ok (.iload_n 2, 1) := by decide +kernel
theorem dX1_missed_16 : decode cX1_missed 16 = .ok (.invokevirtual 55, 3) := by decide +kernel
theorem dX1_missed_19 : decode cX1_missed 19 = .ok (.ifCond .ne 5, 3) := by decide +kernel
theorem dX1_missed_22 : decode cX1_missed 22 = .ok (.iconst (-1), 1) := by decide +kernel
theorem dX1_missed_23 : decode cX1_missed 23 = .ok (.ireturn, 1) := by decide +kernel
theorem dX1_missed_24 : decode cX1_missed 24 = .ok (.iload_n 2, 1) := by decide +kernel
theorem dX1_missed_25 : decode cX1_missed 25 = .ok (.bipush (-9), 2) := by decide +kernel
theorem dX1_missed_27 : decode cX1_missed 27 = .ok (.if_icmp .ne 11, 3) := by decide +kernel
theorem dX1_missed_30 : decode cX1_missed 30 = .ok (.aload_n 0, 1) := by decide +kernel
theorem dX1_missed_31 : decode cX1_missed 31 = .ok (.iload_n 1, 1) := by decide +kernel
theorem dX1_missed_32 : decode cX1_missed 32 = .ok (.invokevirtual 159, 3) := by decide +kernel
theorem dX1_missed_35 : decode cX1_missed 35 = .ok (.goto 15, 3) := by decide +kernel
theorem dX1_missed_38 : decode cX1_missed 38 = .ok (.aload_n 0, 1) := by decide +kernel
theorem dX1_missed_39 : decode cX1_missed 39 = .ok (.getfield 41, 3) := by decide +kernel
theorem dX1_missed_42 : decode cX1_missed 42 = .ok (.aload_n 0, 1) := by decide +kernel
theorem dX1_missed_43 : decode cX1_missed 43 = .ok (.iload_n 1, 1) := by decide +kernel
theorem dX1_missed_44 : decode cX1_missed 44 = .ok (.invokevirtual 156, 3) := by decide +kernel
theorem dX1_missed_47 : decode cX1_missed 47 = .ok (.iload_n 2, 1) := by decide +kernel
theorem dX1_missed_48 : decode cX1_missed 48 = .ok (.iadd, 1) := by decide +kernel
theorem dX1_missed_49 : decode cX1_missed 49 = .ok (.iaload, 1) := by decide +kernel
theorem dX1_missed_50 : decode cX1_missed 50 = .ok (.ireturn, 1) := by decide +kernel
set_option maxRecDepth 20000 in
theorem ggX1_review_X1_isSeat : GoodIn wsX1_review wsX1_isSeat := goodIn_r _ [5, 6, 7, 26, 27, 28, 29, 30, 31, 32, 33, 34, 35, 36, 37] (by decide +kernel) (by decide +kernel)
set_option maxRecDepth 20000 in
theorem gX1_review_X1_isSeat : GoodIn wsX1_review (wsV RX1 145 RX1 yX1_isSeat wsX1_isSeat) := goodIn_app (goodIn_of _ (by decide +kernel)) ggX1_review_X1_isSeat
set_option maxRecDepth 20000 in
theorem ggX1_review_X1_isKind : GoodIn wsX1_review wsX1_isKind := goodIn_r _ [11, 12, 26, 27, 28, 29, 30, 31, 32, 33, 34, 35, 36, 37] (by decide +kernel) (by decide +kernel)
set_option maxRecDepth 20000 in
theorem gX1_review_X1_isKind : GoodIn wsX1_review (wsV RX1 55 RX1 yX1_isKind wsX1_isKind) := goodIn_app (goodIn_of _ (by decide +kernel)) ggX1_review_X1_isKind
set_option maxRecDepth 20000 in
theorem ggX1_review_X1_reviewPlaces : GoodIn wsX1_review wsX1_reviewPlaces := goodIn_r _ [16, 17, 18, 19, 20, 4, 21, 22, 23, 24, 25, 26, 27, 28, 29, 30, 31, 32, 33, 34, 35, 36, 37] (by decide +kernel) (by decide +kernel)
set_option maxRecDepth 20000 in
theorem gX1_review_X1_reviewPlaces : GoodIn wsX1_review (wsV RX1 162 RX1 yX1_reviewPlaces wsX1_reviewPlaces) := goodIn_app (goodIn_of _ (by decide +kernel)) ggX1_review_X1_reviewPlaces
theorem dX1_review_0 : decode cX1_review 0 = .ok (.aload_n 0, 1) := by decide +kernel
theorem dX1_review_1 : decode cX1_review 1 = .ok (.iload_n 1, 1) := by decide +kernel
theorem dX1_review_2 : decode cX1_review 2 = .ok (.invokevirtual 145, 3) := by decide +kernel
theorem dX1_review_5 : decode cX1_review 5 = .ok (.ifCond .eq 11, 3) := by decide +kernel
theorem dX1_review_8 : decode cX1_review 8 = .ok (.aload_n 0, 1) := by decide +kernel
theorem dX1_review_9 : decode cX1_review 9 = .ok (.iload_n 3, 1) := by decide +kernel
theorem dX1_review_10 : decode cX1_review 10 = .ok (.invokevirtual 55, 3) := by decide +kernel
theorem dX1_review_13 : decode cX1_review 13 = .ok (.ifCond .ne 5, 3) := by decide +kernel
theorem dX1_review_16 : decode cX1_review 16 = .ok (.iconst (-1), 1) := by decide +kernel
theorem dX1_review_17 : decode cX1_review 17 = .ok (.ireturn, 1) := by decide +kernel
theorem dX1_review_18 : decode cX1_review 18 = .ok (.iload_n 2, 1) := by decide +kernel
theorem dX1_review_19 : decode cX1_review 19 = .ok (.iconst 1, 1) := by decide +kernel
theorem dX1_review_20 : decode cX1_review 20 = .ok (.if_icmp .lt 9, 3) := by decide +kernel
theorem dX1_review_23 : decode cX1_review 23 = .ok (.iload_n 2, 1) := by decide +kernel
theorem dX1_review_24 : decode cX1_review 24 = .ok (.bipush 60, 2) := by decide +kernel
theorem dX1_review_26 : decode cX1_review 26 = .ok (.if_icmp .le 6, 3) := by decide +kernel
theorem dX1_review_29 : decode cX1_review 29 = .ok (.bipush (-2), 2) := by decide +kernel
theorem dX1_review_31 : decode cX1_review 31 = .ok (.ireturn, 1) := by decide +kernel
theorem dX1_review_32 : decode cX1_review 32 = .ok (.aload_n 0, 1) := by decide +kernel
theorem dX1_review_33 : decode cX1_review 33 = .ok (.iload_n 1, 1) := by decide +kernel
theorem dX1_review_34 : decode cX1_review 34 = .ok (.iload_n 2, 1) := by decide +kernel
theorem dX1_review_35 : decode cX1_review 35 = .ok (.iload_n 3, 1) := by decide +kernel
theorem dX1_review_36 : decode cX1_review 36 = .ok (.invokevirtual 162, 3) := by decide +kernel
theorem dX1_review_39 : decode cX1_review 39 = .ok (.ireturn, 1) := by decide +kernel
set_option maxRecDepth 20000 in
theorem ggX1_all_X1_isKind : GoodIn wsX1_all wsX1_isKind := goodIn_r _ [6, 7, 8, 9, 10, 11, 12, 13, 14, 15, 16, 17, 18, 19] (by decide +kernel) (by decide +kernel)
set_option maxRecDepth 20000 in
theorem gX1_all_X1_isKind : GoodIn wsX1_all (wsV RX1 55 RX1 yX1_isKind wsX1_isKind) := goodIn_app (goodIn_of _ (by decide +kernel)) ggX1_all_X1_isKind
theorem dX1_all_0 : decode cX1_all 0 = .ok (.aload_n 0, 1) := by decide +kernel
theorem dX1_all_1 : decode cX1_all 1 = .ok (.iload_n 1, 1) := by decide +kernel
theorem dX1_all_2 : decode cX1_all 2 = .ok (.invokevirtual 55, 3) := by decide +kernel
theorem dX1_all_5 : decode cX1_all 5 = .ok (.ifCond .ne 5, 3) := by decide +kernel
theorem dX1_all_8 : decode cX1_all 8 = .ok (.iconst (-1), 1) := by decide +kernel
theorem dX1_all_9 : decode cX1_all 9 = .ok (.ireturn, 1) := by decide +kernel
theorem dX1_all_10 : decode cX1_all 10 = .ok (.iconst 0, 1) := by decide +kernel
theorem dX1_all_11 : decode cX1_all 11 = .ok (.istore_n 2, 1) := by decide +kernel
theorem dX1_all_12 : decode cX1_all 12 = .ok (.iload_n 1, 1) := by decide +kernel
theorem dX1_all_13 : decode cX1_all 13 = .ok (.istore_n 3, 1) := by decide +kernel
theorem dX1_all_14 : decode cX1_all 14 = .ok (.iload_n 3, 1) := by decide +kernel
theorem dX1_all_15 : decode cX1_all 15 = .ok (.aload_n 0, 1) := by decide +kernel
theorem dX1_all_16 : decode cX1_all 16 = .ok (.getfield 41, 3) := by decide +kernel
theorem dX1_all_19 : decode cX1_all 19 = .ok (.arraylength, 1) := by decide +kernel
theorem dX1_all_20 : decode cX1_all 20 = .ok (.if_icmp .ge 18, 3) := by decide +kernel
theorem dX1_all_23 : decode cX1_all 23 = .ok (.iload_n 2, 1) := by decide +kernel
theorem dX1_all_24 : decode cX1_all 24 = .ok (.aload_n 0, 1) := by decide +kernel
theorem dX1_all_25 : decode cX1_all 25 = .ok (.getfield 41, 3) := by decide +kernel
theorem dX1_all_28 : decode cX1_all 28 = .ok (.iload_n 3, 1) := by decide +kernel
theorem dX1_all_29 : decode cX1_all 29 = .ok (.iaload, 1) := by decide +kernel
theorem dX1_all_30 : decode cX1_all 30 = .ok (.iadd, 1) := by decide +kernel
theorem dX1_all_31 : decode cX1_all 31 = .ok (.istore_n 2, 1) := by decide +kernel
theorem dX1_all_32 : decode cX1_all 32 = .ok (.iinc 3 8, 3) := by decide +kernel
theorem dX1_all_35 : decode cX1_all 35 = .ok (.goto (-21), 3) := by decide +kernel
theorem dX1_all_38 : decode cX1_all 38 = .ok (.iload_n 2, 1) := by decide +kernel
theorem dX1_all_39 : decode cX1_all 39 = .ok (.ireturn, 1) := by decide +kernel
theorem dX1_total_0 : decode cX1_total 0 = .ok (.iload_n 1, 1) := by decide +kernel
theorem dX1_total_1 : decode cX1_total 1 = .ok (.tableswitch 65 0 4 #[35, 40, 45, 55, 60], 35) := by decide +kernel
theorem dX1_total_36 : decode cX1_total 36 = .ok (.aload_n 0, 1) := by decide +kernel
theorem dX1_total_37 : decode cX1_total 37 = .ok (.getfield 15, 3) := by decide +kernel
theorem dX1_total_40 : decode cX1_total 40 = .ok (.ireturn, 1) := by decide +kernel
theorem dX1_total_41 : decode cX1_total 41 = .ok (.aload_n 0, 1) := by decide +kernel
theorem dX1_total_42 : decode cX1_total 42 = .ok (.getfield 26, 3) := by decide +kernel
theorem dX1_total_45 : decode cX1_total 45 = .ok (.ireturn, 1) := by decide +kernel
theorem dX1_total_46 : decode cX1_total 46 = .ok (.aload_n 0, 1) := by decide +kernel
theorem dX1_total_47 : decode cX1_total 47 = .ok (.getfield 32, 3) := by decide +kernel
theorem dX1_total_50 : decode cX1_total 50 = .ok (.aload_n 0, 1) := by decide +kernel
theorem dX1_total_51 : decode cX1_total 51 = .ok (.getfield 35, 3) := by decide +kernel
theorem dX1_total_54 : decode cX1_total 54 = .ok (.imul, 1) := by decide +kernel
theorem dX1_total_55 : decode cX1_total 55 = .ok (.ireturn, 1) := by decide +kernel
theorem dX1_total_56 : decode cX1_total 56 = .ok (.aload_n 0, 1) := by decide +kernel
theorem dX1_total_57 : decode cX1_total 57 = .ok (.getfield 44, 3) := by decide +kernel
theorem dX1_total_60 : decode cX1_total 60 = .ok (.ireturn, 1) := by decide +kernel
theorem dX1_total_61 : decode cX1_total 61 = .ok (.aload_n 0, 1) := by decide +kernel
theorem dX1_total_62 : decode cX1_total 62 = .ok (.getfield 47, 3) := by decide +kernel
theorem dX1_total_65 : decode cX1_total 65 = .ok (.ireturn, 1) := by decide +kernel
theorem dX1_total_66 : decode cX1_total 66 = .ok (.bipush (-2), 2) := by decide +kernel
theorem dX1_total_68 : decode cX1_total 68 = .ok (.ireturn, 1) := by decide +kernel
theorem dX1_isSeat_0 : decode cX1_isSeat 0 = .ok (.iload_n 1, 1) := by decide +kernel
theorem dX1_isSeat_1 : decode cX1_isSeat 1 = .ok (.ifCond .lt 29, 3) := by decide +kernel
theorem dX1_isSeat_4 : decode cX1_isSeat 4 = .ok (.iload_n 1, 1) := by decide +kernel
theorem dX1_isSeat_5 : decode cX1_isSeat 5 = .ok (.bipush 10, 2) := by decide +kernel
theorem dX1_isSeat_7 : decode cX1_isSeat 7 = .ok (.idiv, 1) := by decide +kernel
theorem dX1_isSeat_8 : decode cX1_isSeat 8 = .ok (.aload_n 0, 1) := by decide +kernel
theorem dX1_isSeat_9 : decode cX1_isSeat 9 = .ok (.getfield 32, 3) := by decide +kernel
theorem dX1_isSeat_12 : decode cX1_isSeat 12 = .ok (.if_icmp .ge 18, 3) := by decide +kernel
theorem dX1_isSeat_15 : decode cX1_isSeat 15 = .ok (.iload_n 1, 1) := by decide +kernel
theorem dX1_isSeat_16 : decode cX1_isSeat 16 = .ok (.bipush 10, 2) := by decide +kernel
theorem dX1_isSeat_18 : decode cX1_isSeat 18 = .ok (.irem, 1) := by decide +kernel
theorem dX1_isSeat_19 : decode cX1_isSeat 19 = .ok (.aload_n 0, 1) := by decide +kernel
theorem dX1_isSeat_20 : decode cX1_isSeat 20 = .ok (.getfield 35, 3) := by decide +kernel
theorem dX1_isSeat_23 : decode cX1_isSeat 23 = .ok (.if_icmp .ge 7, 3) := by decide +kernel
theorem dX1_isSeat_26 : decode cX1_isSeat 26 = .ok (.iconst 1, 1) := by decide +kernel
theorem dX1_isSeat_27 : decode cX1_isSeat 27 = .ok (.goto 4, 3) := by decide +kernel
theorem dX1_isSeat_30 : decode cX1_isSeat 30 = .ok (.iconst 0, 1) := by decide +kernel
theorem dX1_isSeat_31 : decode cX1_isSeat 31 = .ok (.ireturn, 1) := by decide +kernel
theorem dX1_sheetAt_0 : decode cX1_sheetAt 0 = .ok (.iload_n 1, 1) := by decide +kernel
theorem dX1_sheetAt_1 : decode cX1_sheetAt 1 = .ok (.bipush 10, 2) := by decide +kernel
theorem dX1_sheetAt_3 : decode cX1_sheetAt 3 = .ok (.idiv, 1) := by decide +kernel
theorem dX1_sheetAt_4 : decode cX1_sheetAt 4 = .ok (.iconst 2, 1) := by decide +kernel
theorem dX1_sheetAt_5 : decode cX1_sheetAt 5 = .ok (.irem, 1) := by decide +kernel
theorem dX1_sheetAt_6 : decode cX1_sheetAt 6 = .ok (.istore_n 2, 1) := by decide +kernel
theorem dX1_sheetAt_7 : decode cX1_sheetAt 7 = .ok (.iload_n 1, 1) := by decide +kernel
theorem dX1_sheetAt_8 : decode cX1_sheetAt 8 = .ok (.bipush 10, 2) := by decide +kernel
theorem dX1_sheetAt_10 : decode cX1_sheetAt 10 = .ok (.irem, 1) := by decide +kernel
theorem dX1_sheetAt_11 : decode cX1_sheetAt 11 = .ok (.iconst 2, 1) := by decide +kernel
theorem dX1_sheetAt_12 : decode cX1_sheetAt 12 = .ok (.irem, 1) := by decide +kernel
theorem dX1_sheetAt_13 : decode cX1_sheetAt 13 = .ok (.istore_n 3, 1) := by decide +kernel
theorem dX1_sheetAt_14 : decode cX1_sheetAt 14 = .ok (.aload_n 0, 1) := by decide +kernel
theorem dX1_sheetAt_15 : decode cX1_sheetAt 15 = .ok (.getfield 38, 3) := by decide +kernel
theorem dX1_sheetAt_18 : decode cX1_sheetAt 18 = .ok (.iload_n 2, 1) := by decide +kernel
theorem dX1_sheetAt_19 : decode cX1_sheetAt 19 = .ok (.aload_n 0, 1) := by decide +kernel
theorem dX1_sheetAt_20 : decode cX1_sheetAt 20 = .ok (.getfield 35, 3) := by decide +kernel
theorem dX1_sheetAt_23 : decode cX1_sheetAt 23 = .ok (.iconst 2, 1) := by decide +kernel
theorem dX1_sheetAt_24 : decode cX1_sheetAt 24 = .ok (.invokestatic 151, 3) := by decide +kernel
theorem dX1_sheetAt_27 : decode cX1_sheetAt 27 = .ok (.imul, 1) := by decide +kernel
theorem dX1_sheetAt_28 : decode cX1_sheetAt 28 = .ok (.iadd, 1) := by decide +kernel
theorem dX1_sheetAt_29 : decode cX1_sheetAt 29 = .ok (.iload_n 3, 1) := by decide +kernel
theorem dX1_sheetAt_30 : decode cX1_sheetAt 30 = .ok (.iadd, 1) := by decide +kernel
theorem dX1_sheetAt_31 : decode cX1_sheetAt 31 = .ok (.ireturn, 1) := by decide +kernel
theorem dX1_missesFrom_0 : decode cX1_missesFrom 0 = .ok (.iload_n 1, 1) := by decide +kernel
theorem dX1_missesFrom_1 : decode cX1_missesFrom 1 = .ok (.bipush 10, 2) := by decide +kernel
theorem dX1_missesFrom_3 : decode cX1_missesFrom 3 = .ok (.idiv, 1) := by decide +kernel
theorem dX1_missesFrom_4 : decode cX1_missesFrom 4 = .ok (.bipush 8, 2) := by decide +kernel
theorem dX1_missesFrom_6 : decode cX1_missesFrom 6 = .ok (.imul, 1) := by decide +kernel
theorem dX1_missesFrom_7 : decode cX1_missesFrom 7 = .ok (.iload_n 1, 1) := by decide +kernel
theorem dX1_missesFrom_8 : decode cX1_missesFrom 8 = .ok (.bipush 10, 2) := by decide +kernel
theorem dX1_missesFrom_10 : decode cX1_missesFrom 10 = .ok (.irem, 1) := by decide +kernel
theorem dX1_missesFrom_11 : decode cX1_missesFrom 11 = .ok (.iadd, 1) := by decide +kernel
theorem dX1_missesFrom_12 : decode cX1_missesFrom 12 = .ok (.bipush 8, 2) := by decide +kernel
theorem dX1_missesFrom_14 : decode cX1_missesFrom 14 = .ok (.imul, 1) := by decide +kernel
theorem dX1_missesFrom_15 : decode cX1_missesFrom 15 = .ok (.ireturn, 1) := by decide +kernel
set_option maxRecDepth 20000 in
theorem ggX1_missesAt_X1_missesFrom : GoodIn wsX1_missesAt wsX1_missesFrom := goodIn_r _ [6] (by decide +kernel) (by decide +kernel)
set_option maxRecDepth 20000 in
theorem gX1_missesAt_X1_missesFrom : GoodIn wsX1_missesAt (wsV RX1 156 RX1 yX1_missesFrom wsX1_missesFrom) := goodIn_app (goodIn_of _ (by decide +kernel)) ggX1_missesAt_X1_missesFrom
theorem dX1_missesAt_0 : decode cX1_missesAt 0 = .ok (.aload_n 0, 1) := by decide +kernel
theorem dX1_missesAt_1 : decode cX1_missesAt 1 = .ok (.iload_n 1, 1) := by decide +kernel
theorem dX1_missesAt_2 : decode cX1_missesAt 2 = .ok (.invokevirtual 156, 3) := by decide +kernel
theorem dX1_missesAt_5 : decode cX1_missesAt 5 = .ok (.istore_n 2, 1) := by decide +kernel
theorem dX1_missesAt_6 : decode cX1_missesAt 6 = .ok (.iconst 0, 1) := by decide +kernel
theorem dX1_missesAt_7 : decode cX1_missesAt 7 = .ok (.istore_n 3, 1) := by decide +kernel
theorem dX1_missesAt_8 : decode cX1_missesAt 8 = .ok (.iconst 0, 1) := by decide +kernel
theorem dX1_missesAt_9 : decode cX1_missesAt 9 = .ok (.istore 4, 2) := by decide +kernel
theorem dX1_missesAt_11 : decode cX1_missesAt 11 = .ok (.iload 4, 2) := by decide +kernel
theorem dX1_missesAt_13 : decode cX1_missesAt 13 = .ok (.bipush 8, 2) := by decide +kernel
theorem dX1_missesAt_15 : decode cX1_missesAt 15 = .ok (.if_icmp .ge 21, 3) := by decide +kernel
theorem dX1_missesAt_18 : decode cX1_missesAt 18 = .ok (.iload_n 3, 1) := by decide +kernel
theorem dX1_missesAt_19 : decode cX1_missesAt 19 = .ok (.aload_n 0, 1) := by decide +kernel
theorem dX1_missesAt_20 : decode cX1_missesAt 20 = .ok (.getfield 41, 3) := by decide +kernel
theorem dX1_missesAt_23 : decode cX1_missesAt 23 = .ok (.iload_n 2, 1) := by decide +kernel
theorem dX1_missesAt_24 : decode cX1_missesAt 24 = .ok (.iload 4, 2) := by decide +kernel
theorem dX1_missesAt_26 : decode cX1_missesAt 26 = .ok (.iadd, 1) := by decide +kernel
theorem dX1_missesAt_27 : decode cX1_missesAt 27 = .ok (.iaload, 1) := by decide +kernel
theorem dX1_missesAt_28 : decode cX1_missesAt 28 = .ok (.iadd, 1) := by decide +kernel
theorem dX1_missesAt_29 : decode cX1_missesAt 29 = .ok (.istore_n 3, 1) := by decide +kernel
theorem dX1_missesAt_30 : decode cX1_missesAt 30 = .ok (.iinc 4 1, 3) := by decide +kernel
theorem dX1_missesAt_33 : decode cX1_missesAt 33 = .ok (.goto (-22), 3) := by decide +kernel
theorem dX1_missesAt_36 : decode cX1_missesAt 36 = .ok (.iload_n 3, 1) := by decide +kernel
theorem dX1_missesAt_37 : decode cX1_missesAt 37 = .ok (.ireturn, 1) := by decide +kernel
set_option maxRecDepth 20000 in
theorem ggX1_reviewPlaces_X1_missesFrom : GoodIn wsX1_reviewPlaces wsX1_missesFrom := goodIn_r _ [6] (by decide +kernel) (by decide +kernel)
set_option maxRecDepth 20000 in
theorem gX1_reviewPlaces_X1_missesFrom : GoodIn wsX1_reviewPlaces (wsV RX1 156 RX1 yX1_missesFrom wsX1_missesFrom) := goodIn_app (goodIn_of _ (by decide +kernel)) ggX1_reviewPlaces_X1_missesFrom
set_option maxRecDepth 20000 in
theorem ggX1_reviewPlaces_X1_missesAt : GoodIn wsX1_reviewPlaces wsX1_missesAt := goodIn_r _ [10, 1, 2, 3, 4, 5, 6, 11, 12, 13, 14, 15, 16, 17, 18, 19, 20, 21, 22] (by decide +kernel) (by decide +kernel)
set_option maxRecDepth 20000 in
theorem gX1_reviewPlaces_X1_missesAt : GoodIn wsX1_reviewPlaces (wsV RX1 159 RX1 yX1_missesAt wsX1_missesAt) := goodIn_app (goodIn_of _ (by decide +kernel)) ggX1_reviewPlaces_X1_missesAt
theorem dX1_reviewPlaces_0 : decode cX1_reviewPlaces 0 = .ok (.aload_n 0, 1) := by decide +kernel
theorem dX1_reviewPlaces_1 : decode cX1_reviewPlaces 1 = .ok (.iload_n 1, 1) := by decide +kernel
theorem dX1_reviewPlaces_2 : decode cX1_reviewPlaces 2 = .ok (.invokevirtual 156, 3) := by decide +kernel
theorem dX1_reviewPlaces_5 : decode cX1_reviewPlaces 5 = .ok (.istore 4, 2) := by decide +kernel
theorem dX1_reviewPlaces_7 : decode cX1_reviewPlaces 7 = .ok (.aload_n 0, 1) := by decide +kernel
theorem dX1_reviewPlaces_8 : decode cX1_reviewPlaces 8 = .ok (.iload_n 1, 1) := by decide +kernel
theorem dX1_reviewPlaces_9 : decode cX1_reviewPlaces 9 = .ok (.invokevirtual 159, 3) := by decide +kernel
theorem dX1_reviewPlaces_12 : decode cX1_reviewPlaces 12 = .ok (.istore 5, 2) := by decide +kernel
theorem dX1_reviewPlaces_14 : decode cX1_reviewPlaces 14 = .ok (.iload 5, 2) := by decide +kernel
theorem dX1_reviewPlaces_16 : decode cX1_reviewPlaces 16 = .ok (.ifCond .ne 6, 3) := by decide +kernel
theorem dX1_reviewPlaces_19 : decode cX1_reviewPlaces 19 = .ok (.bipush (-3), 2) := by decide +kernel
theorem dX1_reviewPlaces_21 : decode cX1_reviewPlaces 21 = .ok (.ireturn, 1) := by decide +kernel
theorem dX1_reviewPlaces_22 : decode cX1_reviewPlaces 22 = .ok (.iload_n 2, 1) := by decide +kernel
theorem dX1_reviewPlaces_23 : decode cX1_reviewPlaces 23 = .ok (.aload_n 0, 1) := by decide +kernel
theorem dX1_reviewPlaces_24 : decode cX1_reviewPlaces 24 = .ok (.getfield 41, 3) := by decide +kernel
theorem dX1_reviewPlaces_27 : decode cX1_reviewPlaces 27 = .ok (.iload 4, 2) := by decide +kernel
theorem dX1_reviewPlaces_29 : decode cX1_reviewPlaces 29 = .ok (.iload_n 3, 1) := by decide +kernel
theorem dX1_reviewPlaces_30 : decode cX1_reviewPlaces 30 = .ok (.iadd, 1) := by decide +kernel
theorem dX1_reviewPlaces_31 : decode cX1_reviewPlaces 31 = .ok (.iaload, 1) := by decide +kernel
theorem dX1_reviewPlaces_32 : decode cX1_reviewPlaces 32 = .ok (.imul, 1) := by decide +kernel
theorem dX1_reviewPlaces_33 : decode cX1_reviewPlaces 33 = .ok (.iload 5, 2) := by decide +kernel
theorem dX1_reviewPlaces_35 : decode cX1_reviewPlaces 35 = .ok (.irem, 1) := by decide +kernel
theorem dX1_reviewPlaces_36 : decode cX1_reviewPlaces 36 = .ok (.istore 6, 2) := by decide +kernel
theorem dX1_reviewPlaces_38 : decode cX1_reviewPlaces 38 = .ok (.iload_n 2, 1) := by decide +kernel
theorem dX1_reviewPlaces_39 : decode cX1_reviewPlaces 39 = .ok (.istore 7, 2) := by decide +kernel
theorem dX1_reviewPlaces_41 : decode cX1_reviewPlaces 41 = .ok (.iconst 0, 1) := by decide +kernel
theorem dX1_reviewPlaces_42 : decode cX1_reviewPlaces 42 = .ok (.istore 8, 2) := by decide +kernel
theorem dX1_reviewPlaces_44 : decode cX1_reviewPlaces 44 = .ok (.iconst 0, 1) := by decide +kernel
theorem dX1_reviewPlaces_45 : decode cX1_reviewPlaces 45 = .ok (.istore 9, 2) := by decide +kernel
theorem dX1_reviewPlaces_47 : decode cX1_reviewPlaces 47 = .ok (.iload 9, 2) := by decide +kernel
theorem dX1_reviewPlaces_49 : decode cX1_reviewPlaces 49 = .ok (.bipush 8, 2) := by decide +kernel
theorem dX1_reviewPlaces_51 : decode cX1_reviewPlaces 51 = .ok (.if_icmp .ge 62, 3) := by decide +kernel
theorem dX1_reviewPlaces_54 : decode cX1_reviewPlaces 54 = .ok (.iload_n 2, 1) := by decide +kernel
theorem dX1_reviewPlaces_55 : decode cX1_reviewPlaces 55 = .ok (.aload_n 0, 1) := by decide +kernel
theorem dX1_reviewPlaces_56 : decode cX1_reviewPlaces 56 = .ok (.getfield 41, 3) := by decide +kernel
theorem dX1_reviewPlaces_59 : decode cX1_reviewPlaces 59 = .ok (.iload 4, 2) := by decide +kernel
theorem dX1_reviewPlaces_61 : decode cX1_reviewPlaces 61 = .ok (.iload 9, 2) := by decide +kernel
theorem dX1_reviewPlaces_63 : decode cX1_reviewPlaces 63 = .ok (.iadd, 1) := by decide +kernel
theorem dX1_reviewPlaces_64 : decode cX1_reviewPlaces 64 = .ok (.iaload, 1) := by decide +kernel
theorem dX1_reviewPlaces_65 : decode cX1_reviewPlaces 65 = .ok (.imul, 1) := by decide +kernel
theorem dX1_reviewPlaces_66 : decode cX1_reviewPlaces 66 = .ok (.istore 10, 2) := by decide +kernel
theorem dX1_reviewPlaces_68 : decode cX1_reviewPlaces 68 = .ok (.iload 7, 2) := by decide +kernel
theorem dX1_reviewPlaces_70 : decode cX1_reviewPlaces 70 = .ok (.iload 10, 2) := by decide +kernel
theorem dX1_reviewPlaces_72 : decode cX1_reviewPlaces 72 = .ok (.iload 5, 2) := by decide +kernel
theorem dX1_reviewPlaces_74 : decode cX1_reviewPlaces 74 = .ok (.idiv, 1) := by decide +kernel
theorem dX1_reviewPlaces_75 : decode cX1_reviewPlaces 75 = .ok (.isub, 1) := by decide +kernel
theorem dX1_reviewPlaces_76 : decode cX1_reviewPlaces 76 = .ok (.istore 7, 2) := by decide +kernel
theorem dX1_reviewPlaces_78 : decode cX1_reviewPlaces 78 = .ok (.iload 10, 2) := by decide +kernel
theorem dX1_reviewPlaces_80 : decode cX1_reviewPlaces 80 = .ok (.iload 5, 2) := by decide +kernel
theorem dX1_reviewPlaces_82 : decode cX1_reviewPlaces 82 = .ok (.irem, 1) := by decide +kernel
theorem dX1_reviewPlaces_83 : decode cX1_reviewPlaces 83 = .ok (.iload 6, 2) := by decide +kernel
theorem dX1_reviewPlaces_85 : decode cX1_reviewPlaces 85 = .ok (.if_icmp .gt 19, 3) := by decide +kernel
theorem dX1_reviewPlaces_88 : decode cX1_reviewPlaces 88 = .ok (.iload 10, 2) := by decide +kernel
theorem dX1_reviewPlaces_90 : decode cX1_reviewPlaces 90 = .ok (.iload 5, 2) := by decide +kernel
theorem dX1_reviewPlaces_92 : decode cX1_reviewPlaces 92 = .ok (.irem, 1) := by decide +kernel
theorem dX1_reviewPlaces_93 : decode cX1_reviewPlaces 93 = .ok (.iload 6, 2) := by decide +kernel
theorem dX1_reviewPlaces_95 : decode cX1_reviewPlaces 95 = .ok (.if_icmp .ne 12, 3) := by decide +kernel
theorem dX1_reviewPlaces_98 : decode cX1_reviewPlaces 98 = .ok (.iload 9, 2) := by decide +kernel
theorem dX1_reviewPlaces_100 : decode cX1_reviewPlaces 100 = .ok (.iload_n 3, 1) := by decide +kernel
theorem dX1_reviewPlaces_101 : decode cX1_reviewPlaces 101 = .ok (.if_icmp .ge 6, 3) := by decide +kernel
theorem dX1_reviewPlaces_104 : decode cX1_reviewPlaces 104 = .ok (.iinc 8 1, 3) := by decide +kernel
theorem dX1_reviewPlaces_107 : decode cX1_reviewPlaces 107 = .ok (.iinc 9 1, 3) := by decide +kernel
theorem dX1_reviewPlaces_110 : decode cX1_reviewPlaces 110 = .ok (.goto (-63), 3) := by decide +kernel
theorem dX1_reviewPlaces_113 : decode cX1_reviewPlaces 113 = .ok (.iload_n 2, 1) := by decide +kernel
theorem dX1_reviewPlaces_114 : decode cX1_reviewPlaces 114 = .ok (.aload_n 0, 1) := by decide +kernel
theorem dX1_reviewPlaces_115 : decode cX1_reviewPlaces 115 = .ok (.getfield 41, 3) := by decide +kernel
theorem dX1_reviewPlaces_118 : decode cX1_reviewPlaces 118 = .ok (.iload 4, 2) := by decide +kernel
theorem dX1_reviewPlaces_120 : decode cX1_reviewPlaces 120 = .ok (.iload_n 3, 1) := by decide +kernel
theorem dX1_reviewPlaces_121 : decode cX1_reviewPlaces 121 = .ok (.iadd, 1) := by decide +kernel
theorem dX1_reviewPlaces_122 : decode cX1_reviewPlaces 122 = .ok (.iaload, 1) := by decide +kernel
theorem dX1_reviewPlaces_123 : decode cX1_reviewPlaces 123 = .ok (.imul, 1) := by decide +kernel
theorem dX1_reviewPlaces_124 : decode cX1_reviewPlaces 124 = .ok (.iload 5, 2) := by decide +kernel
theorem dX1_reviewPlaces_126 : decode cX1_reviewPlaces 126 = .ok (.idiv, 1) := by decide +kernel
theorem dX1_reviewPlaces_127 : decode cX1_reviewPlaces 127 = .ok (.istore 9, 2) := by decide +kernel
theorem dX1_reviewPlaces_129 : decode cX1_reviewPlaces 129 = .ok (.iload 8, 2) := by decide +kernel
theorem dX1_reviewPlaces_131 : decode cX1_reviewPlaces 131 = .ok (.iload 7, 2) := by decide +kernel
theorem dX1_reviewPlaces_133 : decode cX1_reviewPlaces 133 = .ok (.if_icmp .ge 10, 3) := by decide +kernel
theorem dX1_reviewPlaces_136 : decode cX1_reviewPlaces 136 = .ok (.iload 9, 2) := by decide +kernel
theorem dX1_reviewPlaces_138 : decode cX1_reviewPlaces 138 = .ok (.iconst 1, 1) := by decide +kernel
theorem dX1_reviewPlaces_139 : decode cX1_reviewPlaces 139 = .ok (.iadd, 1) := by decide +kernel
theorem dX1_reviewPlaces_140 : decode cX1_reviewPlaces 140 = .ok (.goto 5, 3) := by decide +kernel
theorem dX1_reviewPlaces_143 : decode cX1_reviewPlaces 143 = .ok (.iload 9, 2) := by decide +kernel
theorem dX1_reviewPlaces_145 : decode cX1_reviewPlaces 145 = .ok (.ireturn, 1) := by decide +kernel
theorem dX2_init_0 : decode cX2_init 0 = .ok (.aload_n 0, 1) := by decide +kernel
theorem dX2_init_1 : decode cX2_init 1 = .ok (.invokespecial 1, 3) := by decide +kernel
theorem dX2_init_4 : decode cX2_init 4 = .ok (.aload_n 0, 1) := by decide +kernel
theorem dX2_init_5 : decode cX2_init 5 = .ok (.bipush 8, 2) := by decide +kernel
theorem dX2_init_7 : decode cX2_init 7 = .ok (.newarray .int, 2) := by decide +kernel
theorem dX2_init_9 : decode cX2_init 9 = .ok (.putfield 7, 3) := by decide +kernel
theorem dX2_init_12 : decode cX2_init 12 = .ok (.aload_n 0, 1) := by decide +kernel
theorem dX2_init_13 : decode cX2_init 13 = .ok (.bipush 24, 2) := by decide +kernel
theorem dX2_init_15 : decode cX2_init 15 = .ok (.newarray .int, 2) := by decide +kernel
theorem dX2_init_17 : decode cX2_init 17 = .ok (.putfield 13, 3) := by decide +kernel
theorem dX2_init_20 : decode cX2_init 20 = .ok (.aload_n 0, 1) := by decide +kernel
theorem dX2_init_21 : decode cX2_init 21 = .ok (.bipush 24, 2) := by decide +kernel
theorem dX2_init_23 : decode cX2_init 23 = .ok (.newarray .int, 2) := by decide +kernel
theorem dX2_init_25 : decode cX2_init 25 = .ok (.putfield 16, 3) := by decide +kernel
theorem dX2_init_28 : decode cX2_init 28 = .ok (.aload_n 0, 1) := by decide +kernel
theorem dX2_init_29 : decode cX2_init 29 = .ok (.bipush 8, 2) := by decide +kernel
theorem dX2_init_31 : decode cX2_init 31 = .ok (.newarray .int, 2) := by decide +kernel
theorem dX2_init_33 : decode cX2_init 33 = .ok (.putfield 19, 3) := by decide +kernel
theorem dX2_init_36 : decode cX2_init 36 = .ok (.aload_n 0, 1) := by decide +kernel
theorem dX2_init_37 : decode cX2_init 37 = .ok (.bipush 8, 2) := by decide +kernel
theorem dX2_init_39 : decode cX2_init 39 = .ok (.newarray .int, 2) := by decide +kernel
theorem dX2_init_41 : decode cX2_init 41 = .ok (.putfield 22, 3) := by decide +kernel
theorem dX2_init_44 : decode cX2_init 44 = .ok (.aload_n 0, 1) := by decide +kernel
theorem dX2_init_45 : decode cX2_init 45 = .ok (.bipush 8, 2) := by decide +kernel
theorem dX2_init_47 : decode cX2_init 47 = .ok (.newarray .int, 2) := by decide +kernel
theorem dX2_init_49 : decode cX2_init 49 = .ok (.putfield 25, 3) := by decide +kernel
theorem dX2_init_52 : decode cX2_init 52 = .ok (.aload_n 0, 1) := by decide +kernel
theorem dX2_init_53 : decode cX2_init 53 = .ok (.bipush 8, 2) := by decide +kernel
theorem dX2_init_55 : decode cX2_init 55 = .ok (.newarray .boolean, 2) := by decide +kernel
theorem dX2_init_57 : decode cX2_init 57 = .ok (.putfield 28, 3) := by decide +kernel
theorem dX2_init_60 : decode cX2_init 60 = .ok (.aload_n 0, 1) := by decide +kernel
theorem dX2_init_61 : decode cX2_init 61 = .ok (.bipush 8, 2) := by decide +kernel
theorem dX2_init_63 : decode cX2_init 63 = .ok (.newarray .int, 2) := by decide +kernel
theorem dX2_init_65 : decode cX2_init 65 = .ok (.putfield 32, 3) := by decide +kernel
theorem dX2_init_68 : decode cX2_init 68 = .ok (.aload_n 0, 1) := by decide +kernel
theorem dX2_init_69 : decode cX2_init 69 = .ok (.ldc 35, 2) := by decide +kernel
theorem dX2_init_71 : decode cX2_init 71 = .ok (.newarray .short, 2) := by decide +kernel
theorem dX2_init_73 : decode cX2_init 73 = .ok (.putfield 36, 3) := by decide +kernel
theorem dX2_init_76 : decode cX2_init 76 = .ok (.aload_n 0, 1) := by decide +kernel
theorem dX2_init_77 : decode cX2_init 77 = .ok (.bipush 40, 2) := by decide +kernel
theorem dX2_init_79 : decode cX2_init 79 = .ok (.newarray .int, 2) := by decide +kernel
theorem dX2_init_81 : decode cX2_init 81 = .ok (.putfield 40, 3) := by decide +kernel
theorem dX2_init_84 : decode cX2_init 84 = .ok (.aload_n 0, 1) := by decide +kernel
theorem dX2_init_85 : decode cX2_init 85 = .ok (.bipush 20, 2) := by decide +kernel
theorem dX2_init_87 : decode cX2_init 87 = .ok (.putfield 43, 3) := by decide +kernel
theorem dX2_init_90 : decode cX2_init 90 = .ok (.aload_n 0, 1) := by decide +kernel
theorem dX2_init_91 : decode cX2_init 91 = .ok (.iconst 1, 1) := by decide +kernel
theorem dX2_init_92 : decode cX2_init 92 = .ok (.putfield 47, 3) := by decide +kernel
theorem dX2_init_95 : decode cX2_init 95 = .ok (.aload_n 0, 1) := by decide +kernel
theorem dX2_init_96 : decode cX2_init 96 = .ok (.iconst 1, 1) := by decide +kernel
theorem dX2_init_97 : decode cX2_init 97 = .ok (.putfield 50, 3) := by decide +kernel
theorem dX2_init_100 : decode cX2_init 100 = .ok (.aload_n 0, 1) := by decide +kernel
theorem dX2_init_101 : decode cX2_init 101 = .ok (.bipush 64, 2) := by decide +kernel
theorem dX2_init_103 : decode cX2_init 103 = .ok (.newarray .int, 2) := by decide +kernel
theorem dX2_init_105 : decode cX2_init 105 = .ok (.putfield 53, 3) := by decide +kernel
theorem dX2_init_108 : decode cX2_init 108 = .ok (.aload_n 0, 1) := by decide +kernel
theorem dX2_init_109 : decode cX2_init 109 = .ok (.sipush 512, 3) := by decide +kernel
theorem dX2_init_112 : decode cX2_init 112 = .ok (.newarray .int, 2) := by decide +kernel
theorem dX2_init_114 : decode cX2_init 114 = .ok (.putfield 56, 3) := by decide +kernel
theorem dX2_init_117 : decode cX2_init 117 = .ok (.return_, 1) := by decide +kernel
theorem dX2_in_0 : decode cX2_in 0 = .ok (.lload_n 0, 1) := by decide +kernel
theorem dX2_in_1 : decode cX2_in 1 = .ok (.lload_n 2, 1) := by decide +kernel
theorem dX2_in_2 : decode cX2_in 2 = .ok (.lcmp, 1) := by decide +kernel
theorem dX2_in_3 : decode cX2_in 3 = .ok (.ifCond .lt 14, 3) := by decide +kernel
theorem dX2_in_6 : decode cX2_in 6 = .ok (.lload_n 0, 1) := by decide +kernel
theorem dX2_in_7 : decode cX2_in 7 = .ok (.lload 4, 2) := by decide +kernel
theorem dX2_in_9 : decode cX2_in 9 = .ok (.lcmp, 1) := by decide +kernel
theorem dX2_in_10 : decode cX2_in 10 = .ok (.ifCond .gt 7, 3) := by decide +kernel
theorem dX2_in_13 : decode cX2_in 13 = .ok (.iconst 1, 1) := by decide +kernel
theorem dX2_in_14 : decode cX2_in 14 = .ok (.goto 4, 3) := by decide +kernel
theorem dX2_in_17 : decode cX2_in 17 = .ok (.iconst 0, 1) := by decide +kernel
theorem dX2_in_18 : decode cX2_in 18 = .ok (.ireturn, 1) := by decide +kernel
set_option maxRecDepth 20000 in
theorem ggX2_noKind_X2_in : GoodIn wsX2_noKind wsX2_in := goodIn_r _ [5] (by decide +kernel) (by decide +kernel)
set_option maxRecDepth 20000 in
theorem gX2_noKind_X2_in : GoodIn wsX2_noKind (va_wsS RX2 65 yX2_in wsX2_in) := goodIn_app (goodIn_of _ (by decide +kernel)) ggX2_noKind_X2_in
theorem dX2_noKind_0 : decode cX2_noKind 0 = .ok (.iload_n 1, 1) := by decide +kernel
theorem dX2_noKind_1 : decode cX2_noKind 1 = .ok (.i2l, 1) := by decide +kernel
theorem dX2_noKind_2 : decode cX2_noKind 2 = .ok (.lconst 0, 1) := by decide +kernel
theorem dX2_noKind_3 : decode cX2_noKind 3 = .ok (.aload_n 0, 1) := by decide +kernel
theorem dX2_noKind_4 : decode cX2_noKind 4 = .ok (.getfield 62, 3) := by decide +kernel
theorem dX2_noKind_7 : decode cX2_noKind 7 = .ok (.iconst 1, 1) := by decide +kernel
theorem dX2_noKind_8 : decode cX2_noKind 8 = .ok (.isub, 1) := by decide +kernel
theorem dX2_noKind_9 : decode cX2_noKind 9 = .ok (.i2l, 1) := by decide +kernel
theorem dX2_noKind_10 : decode cX2_noKind 10 = .ok (.invokestatic 65, 3) := by decide +kernel
theorem dX2_noKind_13 : decode cX2_noKind 13 = .ok (.ifCond .ne 7, 3) := by decide +kernel
theorem dX2_noKind_16 : decode cX2_noKind 16 = .ok (.iconst 1, 1) := by decide +kernel
theorem dX2_noKind_17 : decode cX2_noKind 17 = .ok (.goto 4, 3) := by decide +kernel
theorem dX2_noKind_20 : decode cX2_noKind 20 = .ok (.iconst 0, 1) := by decide +kernel
theorem dX2_noKind_21 : decode cX2_noKind 21 = .ok (.ireturn, 1) := by decide +kernel
set_option maxRecDepth 20000 in
theorem ggX2_noPlace_X2_in : GoodIn wsX2_noPlace wsX2_in := goodIn_r _ [5] (by decide +kernel) (by decide +kernel)
set_option maxRecDepth 20000 in
theorem gX2_noPlace_X2_in : GoodIn wsX2_noPlace (va_wsS RX2 65 yX2_in wsX2_in) := goodIn_app (goodIn_of _ (by decide +kernel)) ggX2_noPlace_X2_in
theorem dX2_noPlace_0 : decode cX2_noPlace 0 = .ok (.iload_n 1, 1) := by decide +kernel
theorem dX2_noPlace_1 : decode cX2_noPlace 1 = .ok (.i2l, 1) := by decide +kernel
theorem dX2_noPlace_2 : decode cX2_noPlace 2 = .ok (.lconst 0, 1) := by decide +kernel
theorem dX2_noPlace_3 : decode cX2_noPlace 3 = .ok (.aload_n 0, 1) := by decide +kernel
theorem dX2_noPlace_4 : decode cX2_noPlace 4 = .ok (.getfield 69, 3) := by decide +kernel
theorem dX2_noPlace_7 : decode cX2_noPlace 7 = .ok (.iconst 1, 1) := by decide +kernel
theorem dX2_noPlace_8 : decode cX2_noPlace 8 = .ok (.isub, 1) := by decide +kernel
theorem dX2_noPlace_9 : decode cX2_noPlace 9 = .ok (.i2l, 1) := by decide +kernel
theorem dX2_noPlace_10 : decode cX2_noPlace 10 = .ok (.invokestatic 65, 3) := by decide +kernel
theorem dX2_noPlace_13 : decode cX2_noPlace 13 = .ok (.ifCond .ne 7, 3) := by decide +kernel
theorem dX2_noPlace_16 : decode cX2_noPlace 16 = .ok (.iconst 1, 1) := by decide +kernel
theorem dX2_noPlace_17 : decode cX2_noPlace 17 = .ok (.goto 4, 3) := by decide +kernel
theorem dX2_noPlace_20 : decode cX2_noPlace 20 = .ok (.iconst 0, 1) := by decide +kernel
theorem dX2_noPlace_21 : decode cX2_noPlace 21 = .ok (.ireturn, 1) := by decide +kernel
theorem dX2_noSeat_0 : decode cX2_noSeat 0 = .ok (.iload_n 1, 1) := by decide +kernel
theorem dX2_noSeat_1 : decode cX2_noSeat 1 = .ok (.ifCond .lt 25, 3) := by decide +kernel
theorem dX2_noSeat_4 : decode cX2_noSeat 4 = .ok (.iload_n 1, 1) := by decide +kernel
theorem dX2_noSeat_5 : decode cX2_noSeat 5 = .ok (.bipush 10, 2) := by decide +kernel
theorem dX2_noSeat_7 : decode cX2_noSeat 7 = .ok (.idiv, 1) := by decide +kernel
theorem dX2_noSeat_8 : decode cX2_noSeat 8 = .ok (.aload_n 0, 1) := by decide +kernel
theorem dX2_noSeat_9 : decode cX2_noSeat 9 = .ok (.getfield 47, 3) := by decide +kernel
theorem dX2_noSeat_12 : decode cX2_noSeat 12 = .ok (.if_icmp .ge 14, 3) := by decide +kernel
theorem dX2_noSeat_15 : decode cX2_noSeat 15 = .ok (.iload_n 1, 1) := by decide +kernel
theorem dX2_noSeat_16 : decode cX2_noSeat 16 = .ok (.bipush 10, 2) := by decide +kernel
theorem dX2_noSeat_18 : decode cX2_noSeat 18 = .ok (.irem, 1) := by decide +kernel
theorem dX2_noSeat_19 : decode cX2_noSeat 19 = .ok (.aload_n 0, 1) := by decide +kernel
theorem dX2_noSeat_20 : decode cX2_noSeat 20 = .ok (.getfield 50, 3) := by decide +kernel
theorem dX2_noSeat_23 : decode cX2_noSeat 23 = .ok (.if_icmp .lt 7, 3) := by decide +kernel
theorem dX2_noSeat_26 : decode cX2_noSeat 26 = .ok (.iconst 1, 1) := by decide +kernel
theorem dX2_noSeat_27 : decode cX2_noSeat 27 = .ok (.goto 4, 3) := by decide +kernel
theorem dX2_noSeat_30 : decode cX2_noSeat 30 = .ok (.iconst 0, 1) := by decide +kernel
theorem dX2_noSeat_31 : decode cX2_noSeat 31 = .ok (.ireturn, 1) := by decide +kernel
theorem dX2_answerOf_0 : decode cX2_answerOf 0 = .ok (.iload_n 0, 1) := by decide +kernel
theorem dX2_answerOf_1 : decode cX2_answerOf 1 = .ok (.ifCond .ne 7, 3) := by decide +kernel
theorem dX2_answerOf_4 : decode cX2_answerOf 4 = .ok (.iload_n 1, 1) := by decide +kernel
theorem dX2_answerOf_5 : decode cX2_answerOf 5 = .ok (.iload_n 2, 1) := by decide +kernel
theorem dX2_answerOf_6 : decode cX2_answerOf 6 = .ok (.iadd, 1) := by decide +kernel
theorem dX2_answerOf_7 : decode cX2_answerOf 7 = .ok (.ireturn, 1) := by decide +kernel
theorem dX2_answerOf_8 : decode cX2_answerOf 8 = .ok (.iload_n 0, 1) := by decide +kernel
theorem dX2_answerOf_9 : decode cX2_answerOf 9 = .ok (.iconst 1, 1) := by decide +kernel
theorem dX2_answerOf_10 : decode cX2_answerOf 10 = .ok (.if_icmp .ne 17, 3) := by decide +kernel
theorem dX2_answerOf_13 : decode cX2_answerOf 13 = .ok (.iload_n 1, 1) := by decide +kernel
theorem dX2_answerOf_14 : decode cX2_answerOf 14 = .ok (.iload_n 2, 1) := by decide +kernel
theorem dX2_answerOf_15 : decode cX2_answerOf 15 = .ok (.if_icmp .lt 9, 3) := by decide +kernel
theorem dX2_answerOf_18 : decode cX2_answerOf 18 = .ok (.iload_n 1, 1) := by decide +kernel
theorem dX2_answerOf_19 : decode cX2_answerOf 19 = .ok (.iload_n 2, 1) := by decide +kernel
theorem dX2_answerOf_20 : decode cX2_answerOf 20 = .ok (.isub, 1) := by decide +kernel
theorem dX2_answerOf_21 : decode cX2_answerOf 21 = .ok (.goto 5, 3) := by decide +kernel
theorem dX2_answerOf_24 : decode cX2_answerOf 24 = .ok (.bipush (-9), 2) := by decide +kernel
theorem dX2_answerOf_26 : decode cX2_answerOf 26 = .ok (.ireturn, 1) := by decide +kernel
theorem dX2_answerOf_27 : decode cX2_answerOf 27 = .ok (.iload_n 0, 1) := by decide +kernel
theorem dX2_answerOf_28 : decode cX2_answerOf 28 = .ok (.iconst 2, 1) := by decide +kernel
theorem dX2_answerOf_29 : decode cX2_answerOf 29 = .ok (.if_icmp .ne 7, 3) := by decide +kernel
theorem dX2_answerOf_32 : decode cX2_answerOf 32 = .ok (.iload_n 1, 1) := by decide +kernel
theorem dX2_answerOf_33 : decode cX2_answerOf 33 = .ok (.iload_n 2, 1) := by decide +kernel
theorem dX2_answerOf_34 : decode cX2_answerOf 34 = .ok (.imul, 1) := by decide +kernel
theorem dX2_answerOf_35 : decode cX2_answerOf 35 = .ok (.ireturn, 1) := by decide +kernel
theorem dX2_answerOf_36 : decode cX2_answerOf 36 = .ok (.iload_n 2, 1) := by decide +kernel
theorem dX2_answerOf_37 : decode cX2_answerOf 37 = .ok (.ifCond .eq 15, 3) := by decide +kernel
theorem dX2_answerOf_40 : decode cX2_answerOf 40 = .ok (.iload_n 1, 1) := by decide +kernel
theorem dX2_answerOf_41 : decode cX2_answerOf 41 = .ok (.iload_n 2, 1) := by decide +kernel
theorem dX2_answerOf_42 : decode cX2_answerOf 42 = .ok (.irem, 1) := by decide +kernel
theorem dX2_answerOf_43 : decode cX2_answerOf 43 = .ok (.ifCond .ne 9, 3) := by decide +kernel
theorem dX2_answerOf_46 : decode cX2_answerOf 46 = .ok (.iload_n 1, 1) := by decide +kernel
theorem dX2_answerOf_47 : decode cX2_answerOf 47 = .ok (.iload_n 2, 1) := by decide +kernel
theorem dX2_answerOf_48 : decode cX2_answerOf 48 = .ok (.idiv, 1) := by decide +kernel
theorem dX2_answerOf_49 : decode cX2_answerOf 49 = .ok (.goto 5, 3) := by decide +kernel
theorem dX2_answerOf_52 : decode cX2_answerOf 52 = .ok (.bipush (-9), 2) := by decide +kernel
theorem dX2_answerOf_54 : decode cX2_answerOf 54 = .ok (.ireturn, 1) := by decide +kernel
theorem dX2_carries_0 : decode cX2_carries 0 = .ok (.iload_n 0, 1) := by decide +kernel
theorem dX2_carries_1 : decode cX2_carries 1 = .ok (.ifCond .ne 25, 3) := by decide +kernel
theorem dX2_carries_4 : decode cX2_carries 4 = .ok (.iload_n 1, 1) := by decide +kernel
theorem dX2_carries_5 : decode cX2_carries 5 = .ok (.bipush 10, 2) := by decide +kernel
theorem dX2_carries_7 : decode cX2_carries 7 = .ok (.irem, 1) := by decide +kernel
theorem dX2_carries_8 : decode cX2_carries 8 = .ok (.iload_n 2, 1) := by decide +kernel
theorem dX2_carries_9 : decode cX2_carries 9 = .ok (.bipush 10, 2) := by decide +kernel
theorem dX2_carries_11 : decode cX2_carries 11 = .ok (.irem, 1) := by decide +kernel
theorem dX2_carries_12 : decode cX2_carries 12 = .ok (.iadd, 1) := by decide +kernel
theorem dX2_carries_13 : decode cX2_carries 13 = .ok (.bipush 10, 2) := by decide +kernel
theorem dX2_carries_15 : decode cX2_carries 15 = .ok (.if_icmp .lt 7, 3) := by decide +kernel
theorem dX2_carries_18 : decode cX2_carries 18 = .ok (.iconst 1, 1) := by decide +kernel
theorem dX2_carries_19 : decode cX2_carries 19 = .ok (.goto 28, 3) := by decide +kernel
theorem dX2_carries_22 : decode cX2_carries 22 = .ok (.iconst 0, 1) := by decide +kernel
theorem dX2_carries_23 : decode cX2_carries 23 = .ok (.goto 24, 3) := by decide +kernel
theorem dX2_carries_26 : decode cX2_carries 26 = .ok (.iload_n 0, 1) := by decide +kernel
theorem dX2_carries_27 : decode cX2_carries 27 = .ok (.iconst 1, 1) := by decide +kernel
theorem dX2_carries_28 : decode cX2_carries 28 = .ok (.if_icmp .ne 18, 3) := by decide +kernel
theorem dX2_carries_31 : decode cX2_carries 31 = .ok (.iload_n 1, 1) := by decide +kernel
theorem dX2_carries_32 : decode cX2_carries 32 = .ok (.bipush 10, 2) := by decide +kernel
theorem dX2_carries_34 : decode cX2_carries 34 = .ok (.irem, 1) := by decide +kernel
theorem dX2_carries_35 : decode cX2_carries 35 = .ok (.iload_n 2, 1) := by decide +kernel
theorem dX2_carries_36 : decode cX2_carries 36 = .ok (.bipush 10, 2) := by decide +kernel
theorem dX2_carries_38 : decode cX2_carries 38 = .ok (.irem, 1) := by decide +kernel
theorem dX2_carries_39 : decode cX2_carries 39 = .ok (.if_icmp .ge 7, 3) := by decide +kernel
theorem dX2_carries_42 : decode cX2_carries 42 = .ok (.iconst 1, 1) := by decide +kernel
theorem dX2_carries_43 : decode cX2_carries 43 = .ok (.goto 4, 3) := by decide +kernel
theorem dX2_carries_46 : decode cX2_carries 46 = .ok (.iconst 0, 1) := by decide +kernel
theorem dX2_carries_47 : decode cX2_carries 47 = .ok (.ireturn, 1) := by decide +kernel
set_option maxRecDepth 20000 in
theorem ggX2_slipOf_X2_answerOf : GoodIn wsX2_slipOf wsX2_answerOf := goodIn_r _ [6] (by decide +kernel) (by decide +kernel)
set_option maxRecDepth 20000 in
theorem gX2_slipOf_X2_answerOf : GoodIn wsX2_slipOf (va_wsS RX2 72 yX2_answerOf wsX2_answerOf) := goodIn_app (goodIn_of _ (by decide +kernel)) ggX2_slipOf_X2_answerOf
set_option maxRecDepth 20000 in
theorem ggX2_slipOf_X2_carries : GoodIn wsX2_slipOf wsX2_carries := goodIn_r _ [9] (by decide +kernel) (by decide +kernel)
set_option maxRecDepth 20000 in
theorem gX2_slipOf_X2_carries : GoodIn wsX2_slipOf (va_wsS RX2 76 yX2_carries wsX2_carries) := goodIn_app (goodIn_of _ (by decide +kernel)) ggX2_slipOf_X2_carries
set_option maxRecDepth 20000 in
theorem ggX2_slipOf_X2_in : GoodIn wsX2_slipOf wsX2_in := goodIn_r _ [12] (by decide +kernel) (by decide +kernel)
set_option maxRecDepth 20000 in
theorem gX2_slipOf_X2_in : GoodIn wsX2_slipOf (va_wsS RX2 65 yX2_in wsX2_in) := goodIn_app (goodIn_of _ (by decide +kernel)) ggX2_slipOf_X2_in
theorem dX2_slipOf_0 : decode cX2_slipOf 0 = .ok (.iload_n 0, 1) := by decide +kernel
theorem dX2_slipOf_1 : decode cX2_slipOf 1 = .ok (.iload_n 1, 1) := by decide +kernel
theorem dX2_slipOf_2 : decode cX2_slipOf 2 = .ok (.iload_n 2, 1) := by decide +kernel
theorem dX2_slipOf_3 : decode cX2_slipOf 3 = .ok (.invokestatic 72, 3) := by decide +kernel
theorem dX2_slipOf_6 : decode cX2_slipOf 6 = .ok (.istore 4, 2) := by decide +kernel
theorem dX2_slipOf_8 : decode cX2_slipOf 8 = .ok (.iload_n 3, 1) := by decide +kernel
theorem dX2_slipOf_9 : decode cX2_slipOf 9 = .ok (.tableswitch 130 1 4 #[31, 61, 110, 115], 31) := by decide +kernel
theorem dX2_slipOf_40 : decode cX2_slipOf 40 = .ok (.iload_n 0, 1) := by decide +kernel
theorem dX2_slipOf_41 : decode cX2_slipOf 41 = .ok (.iconst 1, 1) := by decide +kernel
theorem dX2_slipOf_42 : decode cX2_slipOf 42 = .ok (.if_icmp .eq 8, 3) := by decide +kernel
theorem dX2_slipOf_45 : decode cX2_slipOf 45 = .ok (.iload_n 0, 1) := by decide +kernel
theorem dX2_slipOf_46 : decode cX2_slipOf 46 = .ok (.iconst 2, 1) := by decide +kernel
theorem dX2_slipOf_47 : decode cX2_slipOf 47 = .ok (.if_icmp .ne 9, 3) := by decide +kernel
theorem dX2_slipOf_50 : decode cX2_slipOf 50 = .ok (.iload_n 1, 1) := by decide +kernel
theorem dX2_slipOf_51 : decode cX2_slipOf 51 = .ok (.iload_n 2, 1) := by decide +kernel
theorem dX2_slipOf_52 : decode cX2_slipOf 52 = .ok (.iadd, 1) := by decide +kernel
theorem dX2_slipOf_53 : decode cX2_slipOf 53 = .ok (.goto 16, 3) := by decide +kernel
theorem dX2_slipOf_56 : decode cX2_slipOf 56 = .ok (.iload_n 1, 1) := by decide +kernel
theorem dX2_slipOf_57 : decode cX2_slipOf 57 = .ok (.iload_n 2, 1) := by decide +kernel
theorem dX2_slipOf_58 : decode cX2_slipOf 58 = .ok (.if_icmp .lt 9, 3) := by decide +kernel
theorem dX2_slipOf_61 : decode cX2_slipOf 61 = .ok (.iload_n 1, 1) := by decide +kernel
theorem dX2_slipOf_62 : decode cX2_slipOf 62 = .ok (.iload_n 2, 1) := by decide +kernel
theorem dX2_slipOf_63 : decode cX2_slipOf 63 = .ok (.isub, 1) := by decide +kernel
theorem dX2_slipOf_64 : decode cX2_slipOf 64 = .ok (.goto 5, 3) := by decide +kernel
theorem dX2_slipOf_67 : decode cX2_slipOf 67 = .ok (.bipush (-9), 2) := by decide +kernel
theorem dX2_slipOf_69 : decode cX2_slipOf 69 = .ok (.ireturn, 1) := by decide +kernel
theorem dX2_slipOf_70 : decode cX2_slipOf 70 = .ok (.iload_n 0, 1) := by decide +kernel
theorem dX2_slipOf_71 : decode cX2_slipOf 71 = .ok (.iload_n 1, 1) := by decide +kernel
theorem dX2_slipOf_72 : decode cX2_slipOf 72 = .ok (.iload_n 2, 1) := by decide +kernel
theorem dX2_slipOf_73 : decode cX2_slipOf 73 = .ok (.invokestatic 76, 3) := by decide +kernel
theorem dX2_slipOf_76 : decode cX2_slipOf 76 = .ok (.ifCond .ne 8, 3) := by decide +kernel
theorem dX2_slipOf_79 : decode cX2_slipOf 79 = .ok (.bipush (-9), 2) := by decide +kernel
theorem dX2_slipOf_81 : decode cX2_slipOf 81 = .ok (.goto 37, 3) := by decide +kernel
theorem dX2_slipOf_84 : decode cX2_slipOf 84 = .ok (.iload_n 0, 1) := by decide +kernel
theorem dX2_slipOf_85 : decode cX2_slipOf 85 = .ok (.ifCond .ne 11, 3) := by decide +kernel
theorem dX2_slipOf_88 : decode cX2_slipOf 88 = .ok (.iload 4, 2) := by decide +kernel
theorem dX2_slipOf_90 : decode cX2_slipOf 90 = .ok (.bipush 10, 2) := by decide +kernel
theorem dX2_slipOf_92 : decode cX2_slipOf 92 = .ok (.isub, 1) := by decide +kernel
theorem dX2_slipOf_93 : decode cX2_slipOf 93 = .ok (.goto 25, 3) := by decide +kernel
theorem dX2_slipOf_96 : decode cX2_slipOf 96 = .ok (.bipush 10, 2) := by decide +kernel
theorem dX2_slipOf_98 : decode cX2_slipOf 98 = .ok (.iload_n 1, 1) := by decide +kernel
theorem dX2_slipOf_99 : decode cX2_slipOf 99 = .ok (.bipush 10, 2) := by decide +kernel
theorem dX2_slipOf_101 : decode cX2_slipOf 101 = .ok (.idiv, 1) := by decide +kernel
theorem dX2_slipOf_102 : decode cX2_slipOf 102 = .ok (.iload_n 2, 1) := by decide +kernel
theorem dX2_slipOf_103 : decode cX2_slipOf 103 = .ok (.bipush 10, 2) := by decide +kernel
theorem dX2_slipOf_105 : decode cX2_slipOf 105 = .ok (.idiv, 1) := by decide +kernel
theorem dX2_slipOf_106 : decode cX2_slipOf 106 = .ok (.isub, 1) := by decide +kernel
theorem dX2_slipOf_107 : decode cX2_slipOf 107 = .ok (.imul, 1) := by decide +kernel
theorem dX2_slipOf_108 : decode cX2_slipOf 108 = .ok (.iload_n 2, 1) := by decide +kernel
theorem dX2_slipOf_109 : decode cX2_slipOf 109 = .ok (.bipush 10, 2) := by decide +kernel
theorem dX2_slipOf_111 : decode cX2_slipOf 111 = .ok (.irem, 1) := by decide +kernel
theorem dX2_slipOf_112 : decode cX2_slipOf 112 = .ok (.iadd, 1) := by decide +kernel
theorem dX2_slipOf_113 : decode cX2_slipOf 113 = .ok (.iload_n 1, 1) := by decide +kernel
theorem dX2_slipOf_114 : decode cX2_slipOf 114 = .ok (.bipush 10, 2) := by decide +kernel
theorem dX2_slipOf_116 : decode cX2_slipOf 116 = .ok (.irem, 1) := by decide +kernel
theorem dX2_slipOf_117 : decode cX2_slipOf 117 = .ok (.isub, 1) := by decide +kernel
theorem dX2_slipOf_118 : decode cX2_slipOf 118 = .ok (.ireturn, 1) := by decide +kernel
theorem dX2_slipOf_119 : decode cX2_slipOf 119 = .ok (.iload 4, 2) := by decide +kernel
theorem dX2_slipOf_121 : decode cX2_slipOf 121 = .ok (.iconst 1, 1) := by decide +kernel
theorem dX2_slipOf_122 : decode cX2_slipOf 122 = .ok (.iadd, 1) := by decide +kernel
theorem dX2_slipOf_123 : decode cX2_slipOf 123 = .ok (.ireturn, 1) := by decide +kernel
theorem dX2_slipOf_124 : decode cX2_slipOf 124 = .ok (.iload 4, 2) := by decide +kernel
theorem dX2_slipOf_126 : decode cX2_slipOf 126 = .ok (.ifCond .le 10, 3) := by decide +kernel
theorem dX2_slipOf_129 : decode cX2_slipOf 129 = .ok (.iload 4, 2) := by decide +kernel
theorem dX2_slipOf_131 : decode cX2_slipOf 131 = .ok (.iconst 1, 1) := by decide +kernel
theorem dX2_slipOf_132 : decode cX2_slipOf 132 = .ok (.isub, 1) := by decide +kernel
theorem dX2_slipOf_133 : decode cX2_slipOf 133 = .ok (.goto 5, 3) := by decide +kernel
theorem dX2_slipOf_136 : decode cX2_slipOf 136 = .ok (.bipush (-9), 2) := by decide +kernel
theorem dX2_slipOf_138 : decode cX2_slipOf 138 = .ok (.ireturn, 1) := by decide +kernel
theorem dX2_slipOf_139 : decode cX2_slipOf 139 = .ok (.iload 4, 2) := by decide +kernel
theorem dX2_slipOf_141 : decode cX2_slipOf 141 = .ok (.i2l, 1) := by decide +kernel
theorem dX2_slipOf_142 : decode cX2_slipOf 142 = .ok (.ldc2_w 80, 3) := by decide +kernel
theorem dX2_slipOf_145 : decode cX2_slipOf 145 = .ok (.ldc2_w 82, 3) := by decide +kernel
theorem dX2_slipOf_148 : decode cX2_slipOf 148 = .ok (.invokestatic 65, 3) := by decide +kernel
theorem dX2_slipOf_151 : decode cX2_slipOf 151 = .ok (.ifCond .eq 33, 3) := by decide +kernel
theorem dX2_slipOf_154 : decode cX2_slipOf 154 = .ok (.iload 4, 2) := by decide +kernel
theorem dX2_slipOf_156 : decode cX2_slipOf 156 = .ok (.bipush 10, 2) := by decide +kernel
theorem dX2_slipOf_158 : decode cX2_slipOf 158 = .ok (.idiv, 1) := by decide +kernel
theorem dX2_slipOf_159 : decode cX2_slipOf 159 = .ok (.iload 4, 2) := by decide +kernel
theorem dX2_slipOf_161 : decode cX2_slipOf 161 = .ok (.bipush 10, 2) := by decide +kernel
theorem dX2_slipOf_163 : decode cX2_slipOf 163 = .ok (.irem, 1) := by decide +kernel
theorem dX2_slipOf_164 : decode cX2_slipOf 164 = .ok (.if_icmp .eq 20, 3) := by decide +kernel
theorem dX2_slipOf_167 : decode cX2_slipOf 167 = .ok (.bipush 10, 2) := by decide +kernel
theorem dX2_slipOf_169 : decode cX2_slipOf 169 = .ok (.iload 4, 2) := by decide +kernel
theorem dX2_slipOf_171 : decode cX2_slipOf 171 = .ok (.bipush 10, 2) := by decide +kernel
theorem dX2_slipOf_173 : decode cX2_slipOf 173 = .ok (.irem, 1) := by decide +kernel
theorem dX2_slipOf_174 : decode cX2_slipOf 174 = .ok (.imul, 1) := by decide +kernel
theorem dX2_slipOf_175 : decode cX2_slipOf 175 = .ok (.iload 4, 2) := by decide +kernel
theorem dX2_slipOf_177 : decode cX2_slipOf 177 = .ok (.bipush 10, 2) := by decide +kernel
theorem dX2_slipOf_179 : decode cX2_slipOf 179 = .ok (.idiv, 1) := by decide +kernel
theorem dX2_slipOf_180 : decode cX2_slipOf 180 = .ok (.iadd, 1) := by decide +kernel
theorem dX2_slipOf_181 : decode cX2_slipOf 181 = .ok (.goto 5, 3) := by decide +kernel
theorem dX2_slipOf_184 : decode cX2_slipOf 184 = .ok (.bipush (-9), 2) := by decide +kernel
theorem dX2_slipOf_186 : decode cX2_slipOf 186 = .ok (.ireturn, 1) := by decide +kernel
set_option maxRecDepth 20000 in
theorem ggX2_holds_X2_answerOf : GoodIn wsX2_holds wsX2_answerOf := goodIn_r _ [8] (by decide +kernel) (by decide +kernel)
set_option maxRecDepth 20000 in
theorem gX2_holds_X2_answerOf : GoodIn wsX2_holds (va_wsS RX2 72 yX2_answerOf wsX2_answerOf) := goodIn_app (goodIn_of _ (by decide +kernel)) ggX2_holds_X2_answerOf
set_option maxRecDepth 20000 in
theorem ggX2_holds_X2_in : GoodIn wsX2_holds wsX2_in := goodIn_r _ [11] (by decide +kernel) (by decide +kernel)
set_option maxRecDepth 20000 in
theorem gX2_holds_X2_in : GoodIn wsX2_holds (va_wsS RX2 65 yX2_in wsX2_in) := goodIn_app (goodIn_of _ (by decide +kernel)) ggX2_holds_X2_in
set_option maxRecDepth 20000 in
theorem ggX2_holds_X2_carries : GoodIn wsX2_holds wsX2_carries := goodIn_r _ [14] (by decide +kernel) (by decide +kernel)
set_option maxRecDepth 20000 in
theorem gX2_holds_X2_carries : GoodIn wsX2_holds (va_wsS RX2 76 yX2_carries wsX2_carries) := goodIn_app (goodIn_of _ (by decide +kernel)) ggX2_holds_X2_carries
set_option maxRecDepth 20000 in
theorem ggX2_holds_X2_slipOf : GoodIn wsX2_holds wsX2_slipOf := goodIn_r _ [17, 18, 19, 5, 6, 7, 8, 12, 13, 14, 9, 10, 11] (by decide +kernel) (by decide +kernel)
set_option maxRecDepth 20000 in
theorem gX2_holds_X2_slipOf : GoodIn wsX2_holds (va_wsS RX2 84 yX2_slipOf wsX2_slipOf) := goodIn_app (goodIn_of _ (by decide +kernel)) ggX2_holds_X2_slipOf
theorem dX2_holds_0 : decode cX2_holds 0 = .ok (.aload_n 0, 1) := by decide +kernel
theorem dX2_holds_1 : decode cX2_holds 1 = .ok (.getfield 7, 3) := by decide +kernel
theorem dX2_holds_4 : decode cX2_holds 4 = .ok (.iload_n 1, 1) := by decide +kernel
theorem dX2_holds_5 : decode cX2_holds 5 = .ok (.iaload, 1) := by decide +kernel
theorem dX2_holds_6 : decode cX2_holds 6 = .ok (.istore 4, 2) := by decide +kernel
theorem dX2_holds_8 : decode cX2_holds 8 = .ok (.iload 4, 2) := by decide +kernel
theorem dX2_holds_10 : decode cX2_holds 10 = .ok (.iload_n 2, 1) := by decide +kernel
theorem dX2_holds_11 : decode cX2_holds 11 = .ok (.iload_n 3, 1) := by decide +kernel
theorem dX2_holds_12 : decode cX2_holds 12 = .ok (.invokestatic 72, 3) := by decide +kernel
theorem dX2_holds_15 : decode cX2_holds 15 = .ok (.istore 5, 2) := by decide +kernel
theorem dX2_holds_17 : decode cX2_holds 17 = .ok (.iload 5, 2) := by decide +kernel
theorem dX2_holds_19 : decode cX2_holds 19 = .ok (.bipush (-9), 2) := by decide +kernel
theorem dX2_holds_21 : decode cX2_holds 21 = .ok (.if_icmp .eq 34, 3) := by decide +kernel
theorem dX2_holds_24 : decode cX2_holds 24 = .ok (.iload 5, 2) := by decide +kernel
theorem dX2_holds_26 : decode cX2_holds 26 = .ok (.i2l, 1) := by decide +kernel
theorem dX2_holds_27 : decode cX2_holds 27 = .ok (.aload_n 0, 1) := by decide +kernel
theorem dX2_holds_28 : decode cX2_holds 28 = .ok (.getfield 13, 3) := by decide +kernel
theorem dX2_holds_31 : decode cX2_holds 31 = .ok (.iconst 3, 1) := by decide +kernel
theorem dX2_holds_32 : decode cX2_holds 32 = .ok (.iload_n 1, 1) := by decide +kernel
theorem dX2_holds_33 : decode cX2_holds 33 = .ok (.imul, 1) := by decide +kernel
theorem dX2_holds_34 : decode cX2_holds 34 = .ok (.iconst 2, 1) := by decide +kernel
theorem dX2_holds_35 : decode cX2_holds 35 = .ok (.iadd, 1) := by decide +kernel
theorem dX2_holds_36 : decode cX2_holds 36 = .ok (.iaload, 1) := by decide +kernel
theorem dX2_holds_37 : decode cX2_holds 37 = .ok (.i2l, 1) := by decide +kernel
theorem dX2_holds_38 : decode cX2_holds 38 = .ok (.aload_n 0, 1) := by decide +kernel
theorem dX2_holds_39 : decode cX2_holds 39 = .ok (.getfield 16, 3) := by decide +kernel
theorem dX2_holds_42 : decode cX2_holds 42 = .ok (.iconst 3, 1) := by decide +kernel
theorem dX2_holds_43 : decode cX2_holds 43 = .ok (.iload_n 1, 1) := by decide +kernel
theorem dX2_holds_44 : decode cX2_holds 44 = .ok (.imul, 1) := by decide +kernel
theorem dX2_holds_45 : decode cX2_holds 45 = .ok (.iconst 2, 1) := by decide +kernel
theorem dX2_holds_46 : decode cX2_holds 46 = .ok (.iadd, 1) := by decide +kernel
theorem dX2_holds_47 : decode cX2_holds 47 = .ok (.iaload, 1) := by decide +kernel
theorem dX2_holds_48 : decode cX2_holds 48 = .ok (.i2l, 1) := by decide +kernel
theorem dX2_holds_49 : decode cX2_holds 49 = .ok (.invokestatic 65, 3) := by decide +kernel
theorem dX2_holds_52 : decode cX2_holds 52 = .ok (.ifCond .ne 5, 3) := by decide +kernel
theorem dX2_holds_55 : decode cX2_holds 55 = .ok (.iconst 0, 1) := by decide +kernel
theorem dX2_holds_56 : decode cX2_holds 56 = .ok (.ireturn, 1) := by decide +kernel
theorem dX2_holds_57 : decode cX2_holds 57 = .ok (.aload_n 0, 1) := by decide +kernel
theorem dX2_holds_58 : decode cX2_holds 58 = .ok (.getfield 19, 3) := by decide +kernel
theorem dX2_holds_61 : decode cX2_holds 61 = .ok (.iload_n 1, 1) := by decide +kernel
theorem dX2_holds_62 : decode cX2_holds 62 = .ok (.iaload, 1) := by decide +kernel
theorem dX2_holds_63 : decode cX2_holds 63 = .ok (.ifCond .eq 43, 3) := by decide +kernel
theorem dX2_holds_66 : decode cX2_holds 66 = .ok (.aload_n 0, 1) := by decide +kernel
theorem dX2_holds_67 : decode cX2_holds 67 = .ok (.getfield 19, 3) := by decide +kernel
theorem dX2_holds_70 : decode cX2_holds 70 = .ok (.iload_n 1, 1) := by decide +kernel
theorem dX2_holds_71 : decode cX2_holds 71 = .ok (.iaload, 1) := by decide +kernel
theorem dX2_holds_72 : decode cX2_holds 72 = .ok (.iconst 1, 1) := by decide +kernel
theorem dX2_holds_73 : decode cX2_holds 73 = .ok (.if_icmp .ne 13, 3) := by decide +kernel
theorem dX2_holds_76 : decode cX2_holds 76 = .ok (.iload 4, 2) := by decide +kernel
theorem dX2_holds_78 : decode cX2_holds 78 = .ok (.iload_n 2, 1) := by decide +kernel
theorem dX2_holds_79 : decode cX2_holds 79 = .ok (.iload_n 3, 1) := by decide +kernel
theorem dX2_holds_80 : decode cX2_holds 80 = .ok (.invokestatic 76, 3) := by decide +kernel
theorem dX2_holds_83 : decode cX2_holds 83 = .ok (.ifCond .eq 23, 3) := by decide +kernel
theorem dX2_holds_86 : decode cX2_holds 86 = .ok (.aload_n 0, 1) := by decide +kernel
theorem dX2_holds_87 : decode cX2_holds 87 = .ok (.getfield 19, 3) := by decide +kernel
theorem dX2_holds_90 : decode cX2_holds 90 = .ok (.iload_n 1, 1) := by decide +kernel
theorem dX2_holds_91 : decode cX2_holds 91 = .ok (.iaload, 1) := by decide +kernel
theorem dX2_holds_92 : decode cX2_holds 92 = .ok (.iconst 2, 1) := by decide +kernel
theorem dX2_holds_93 : decode cX2_holds 93 = .ok (.if_icmp .ne 17, 3) := by decide +kernel
theorem dX2_holds_96 : decode cX2_holds 96 = .ok (.iload 4, 2) := by decide +kernel
theorem dX2_holds_98 : decode cX2_holds 98 = .ok (.iload_n 2, 1) := by decide +kernel
theorem dX2_holds_99 : decode cX2_holds 99 = .ok (.iload_n 3, 1) := by decide +kernel
theorem dX2_holds_100 : decode cX2_holds 100 = .ok (.invokestatic 76, 3) := by decide +kernel
theorem dX2_holds_103 : decode cX2_holds 103 = .ok (.ifCond .eq 7, 3) := by decide +kernel
theorem dX2_holds_106 : decode cX2_holds 106 = .ok (.iconst 1, 1) := by decide +kernel
theorem dX2_holds_107 : decode cX2_holds 107 = .ok (.goto 4, 3) := by decide +kernel
theorem dX2_holds_110 : decode cX2_holds 110 = .ok (.iconst 0, 1) := by decide +kernel
theorem dX2_holds_111 : decode cX2_holds 111 = .ok (.istore 6, 2) := by decide +kernel
theorem dX2_holds_113 : decode cX2_holds 113 = .ok (.aload_n 0, 1) := by decide +kernel
theorem dX2_holds_114 : decode cX2_holds 114 = .ok (.getfield 19, 3) := by decide +kernel
theorem dX2_holds_117 : decode cX2_holds 117 = .ok (.iload_n 1, 1) := by decide +kernel
theorem dX2_holds_118 : decode cX2_holds 118 = .ok (.iaload, 1) := by decide +kernel
theorem dX2_holds_119 : decode cX2_holds 119 = .ok (.iconst 3, 1) := by decide +kernel
theorem dX2_holds_120 : decode cX2_holds 120 = .ok (.if_icmp .ne 48, 3) := by decide +kernel
theorem dX2_holds_123 : decode cX2_holds 123 = .ok (.iconst 1, 1) := by decide +kernel
theorem dX2_holds_124 : decode cX2_holds 124 = .ok (.istore 6, 2) := by decide +kernel
theorem dX2_holds_126 : decode cX2_holds 126 = .ok (.iconst 1, 1) := by decide +kernel
theorem dX2_holds_127 : decode cX2_holds 127 = .ok (.istore 7, 2) := by decide +kernel
theorem dX2_holds_129 : decode cX2_holds 129 = .ok (.iload 7, 2) := by decide +kernel
theorem dX2_holds_131 : decode cX2_holds 131 = .ok (.bipush 6, 2) := by decide +kernel
theorem dX2_holds_133 : decode cX2_holds 133 = .ok (.if_icmp .ge 35, 3) := by decide +kernel
theorem dX2_holds_136 : decode cX2_holds 136 = .ok (.iload 6, 2) := by decide +kernel
theorem dX2_holds_138 : decode cX2_holds 138 = .ok (.ifCond .eq 21, 3) := by decide +kernel
theorem dX2_holds_141 : decode cX2_holds 141 = .ok (.iload 4, 2) := by decide +kernel
theorem dX2_holds_143 : decode cX2_holds 143 = .ok (.iload_n 2, 1) := by decide +kernel
theorem dX2_holds_144 : decode cX2_holds 144 = .ok (.iload_n 3, 1) := by decide +kernel
theorem dX2_holds_145 : decode cX2_holds 145 = .ok (.iload 7, 2) := by decide +kernel
theorem dX2_holds_147 : decode cX2_holds 147 = .ok (.invokestatic 84, 3) := by decide +kernel
theorem dX2_holds_150 : decode cX2_holds 150 = .ok (.iload 5, 2) := by decide +kernel
theorem dX2_holds_152 : decode cX2_holds 152 = .ok (.if_icmp .eq 7, 3) := by decide +kernel
theorem dX2_holds_155 : decode cX2_holds 155 = .ok (.iconst 1, 1) := by decide +kernel
theorem dX2_holds_156 : decode cX2_holds 156 = .ok (.goto 4, 3) := by decide +kernel
theorem dX2_holds_159 : decode cX2_holds 159 = .ok (.iconst 0, 1) := by decide +kernel
theorem dX2_holds_160 : decode cX2_holds 160 = .ok (.istore 6, 2) := by decide +kernel
theorem dX2_holds_162 : decode cX2_holds 162 = .ok (.iinc 7 1, 3) := by decide +kernel
theorem dX2_holds_165 : decode cX2_holds 165 = .ok (.goto (-36), 3) := by decide +kernel
theorem dX2_holds_168 : decode cX2_holds 168 = .ok (.iload 6, 2) := by decide +kernel
theorem dX2_holds_170 : decode cX2_holds 170 = .ok (.ireturn, 1) := by decide +kernel
set_option maxRecDepth 20000 in
theorem ggX2_tell_X2_holds : GoodIn wsX2_tell wsX2_holds := goodIn_r _ [10, 11, 2, 3, 12, 13, 14, 9, 15, 16, 17, 18, 19, 20, 21, 22, 23, 24, 25, 26, 27, 28, 29, 30, 31, 32, 33, 34, 35, 36, 37, 38, 39, 40, 41, 42, 43, 44, 45, 46, 47] (by decide +kernel) (by decide +kernel)
set_option maxRecDepth 20000 in
theorem gX2_tell_X2_holds : GoodIn wsX2_tell (wsV RX2 88 RX2 yX2_holds wsX2_holds) := goodIn_app (goodIn_of _ (by decide +kernel)) ggX2_tell_X2_holds
theorem dX2_tell_0 : decode cX2_tell 0 = .ok (.aload_n 0, 1) := by decide +kernel
theorem dX2_tell_1 : decode cX2_tell 1 = .ok (.getfield 28, 3) := by decide +kernel
theorem dX2_tell_4 : decode cX2_tell 4 = .ok (.iload_n 1, 1) := by decide +kernel
theorem dX2_tell_5 : decode cX2_tell 5 = .ok (.baload, 1) := by decide +kernel
theorem dX2_tell_6 : decode cX2_tell 6 = .ok (.ifCond .ne 113, 3) := by decide +kernel
theorem dX2_tell_9 : decode cX2_tell 9 = .ok (.iconst 0, 1) := by decide +kernel
theorem dX2_tell_10 : decode cX2_tell 10 = .ok (.istore_n 2, 1) := by decide +kernel
theorem dX2_tell_11 : decode cX2_tell 11 = .ok (.aload_n 0, 1) := by decide +kernel
theorem dX2_tell_12 : decode cX2_tell 12 = .ok (.getfield 13, 3) := by decide +kernel
theorem dX2_tell_15 : decode cX2_tell 15 = .ok (.iconst 3, 1) := by decide +kernel
theorem dX2_tell_16 : decode cX2_tell 16 = .ok (.iload_n 1, 1) := by decide +kernel
theorem dX2_tell_17 : decode cX2_tell 17 = .ok (.imul, 1) := by decide +kernel
theorem dX2_tell_18 : decode cX2_tell 18 = .ok (.iaload, 1) := by decide +kernel
theorem dX2_tell_19 : decode cX2_tell 19 = .ok (.istore_n 3, 1) := by decide +kernel
theorem dX2_tell_20 : decode cX2_tell 20 = .ok (.iload_n 3, 1) := by decide +kernel
theorem dX2_tell_21 : decode cX2_tell 21 = .ok (.aload_n 0, 1) := by decide +kernel
theorem dX2_tell_22 : decode cX2_tell 22 = .ok (.getfield 16, 3) := by decide +kernel
theorem dX2_tell_25 : decode cX2_tell 25 = .ok (.iconst 3, 1) := by decide +kernel
theorem dX2_tell_26 : decode cX2_tell 26 = .ok (.iload_n 1, 1) := by decide +kernel
theorem dX2_tell_27 : decode cX2_tell 27 = .ok (.imul, 1) := by decide +kernel
theorem dX2_tell_28 : decode cX2_tell 28 = .ok (.iaload, 1) := by decide +kernel
theorem dX2_tell_29 : decode cX2_tell 29 = .ok (.if_icmp .gt 76, 3) := by decide +kernel
theorem dX2_tell_32 : decode cX2_tell 32 = .ok (.aload_n 0, 1) := by decide +kernel
theorem dX2_tell_33 : decode cX2_tell 33 = .ok (.getfield 13, 3) := by decide +kernel
theorem dX2_tell_36 : decode cX2_tell 36 = .ok (.iconst 3, 1) := by decide +kernel
theorem dX2_tell_37 : decode cX2_tell 37 = .ok (.iload_n 1, 1) := by decide +kernel
theorem dX2_tell_38 : decode cX2_tell 38 = .ok (.imul, 1) := by decide +kernel
theorem dX2_tell_39 : decode cX2_tell 39 = .ok (.iconst 1, 1) := by decide +kernel
theorem dX2_tell_40 : decode cX2_tell 40 = .ok (.iadd, 1) := by decide +kernel
theorem dX2_tell_41 : decode cX2_tell 41 = .ok (.iaload, 1) := by decide +kernel
theorem dX2_tell_42 : decode cX2_tell 42 = .ok (.istore 4, 2) := by decide +kernel
theorem dX2_tell_44 : decode cX2_tell 44 = .ok (.iload 4, 2) := by decide +kernel
theorem dX2_tell_46 : decode cX2_tell 46 = .ok (.aload_n 0, 1) := by decide +kernel
theorem dX2_tell_47 : decode cX2_tell 47 = .ok (.getfield 16, 3) := by decide +kernel
theorem dX2_tell_50 : decode cX2_tell 50 = .ok (.iconst 3, 1) := by decide +kernel
theorem dX2_tell_51 : decode cX2_tell 51 = .ok (.iload_n 1, 1) := by decide +kernel
theorem dX2_tell_52 : decode cX2_tell 52 = .ok (.imul, 1) := by decide +kernel
theorem dX2_tell_53 : decode cX2_tell 53 = .ok (.iconst 1, 1) := by decide +kernel
theorem dX2_tell_54 : decode cX2_tell 54 = .ok (.iadd, 1) := by decide +kernel
theorem dX2_tell_55 : decode cX2_tell 55 = .ok (.iaload, 1) := by decide +kernel
theorem dX2_tell_56 : decode cX2_tell 56 = .ok (.if_icmp .gt 43, 3) := by decide +kernel
theorem dX2_tell_59 : decode cX2_tell 59 = .ok (.aload_n 0, 1) := by decide +kernel
theorem dX2_tell_60 : decode cX2_tell 60 = .ok (.iload_n 1, 1) := by decide +kernel
theorem dX2_tell_61 : decode cX2_tell 61 = .ok (.iload_n 3, 1) := by decide +kernel
theorem dX2_tell_62 : decode cX2_tell 62 = .ok (.iload 4, 2) := by decide +kernel
theorem dX2_tell_64 : decode cX2_tell 64 = .ok (.invokevirtual 88, 3) := by decide +kernel
theorem dX2_tell_67 : decode cX2_tell 67 = .ok (.ifCond .eq 26, 3) := by decide +kernel
theorem dX2_tell_70 : decode cX2_tell 70 = .ok (.aload_n 0, 1) := by decide +kernel
theorem dX2_tell_71 : decode cX2_tell 71 = .ok (.getfield 36, 3) := by decide +kernel
theorem dX2_tell_74 : decode cX2_tell 74 = .ok (.sipush 10000, 3) := by decide +kernel
theorem dX2_tell_77 : decode cX2_tell 77 = .ok (.iload_n 1, 1) := by decide +kernel
theorem dX2_tell_78 : decode cX2_tell 78 = .ok (.imul, 1) := by decide +kernel
theorem dX2_tell_79 : decode cX2_tell 79 = .ok (.iload_n 2, 1) := by decide +kernel
theorem dX2_tell_80 : decode cX2_tell 80 = .ok (.iadd, 1) := by decide +kernel
theorem dX2_tell_81 : decode cX2_tell 81 = .ok (.bipush 100, 2) := by decide +kernel
theorem dX2_tell_83 : decode cX2_tell 83 = .ok (.iload_n 3, 1) := by decide +kernel
theorem dX2_tell_84 : decode cX2_tell 84 = .ok (.imul, 1) := by decide +kernel
theorem dX2_tell_85 : decode cX2_tell 85 = .ok (.iload 4, 2) := by decide +kernel
theorem dX2_tell_87 : decode cX2_tell 87 = .ok (.iadd, 1) := by decide +kernel
theorem dX2_tell_88 : decode cX2_tell 88 = .ok (.i2s, 1) := by decide +kernel
theorem dX2_tell_89 : decode cX2_tell 89 = .ok (.sastore, 1) := by decide +kernel
theorem dX2_tell_90 : decode cX2_tell 90 = .ok (.iinc 2 1, 3) := by decide +kernel
theorem dX2_tell_93 : decode cX2_tell 93 = .ok (.iinc 4 1, 3) := by decide +kernel
theorem dX2_tell_96 : decode cX2_tell 96 = .ok (.goto (-52), 3) := by decide +kernel
theorem dX2_tell_99 : decode cX2_tell 99 = .ok (.iinc 3 1, 3) := by decide +kernel
theorem dX2_tell_102 : decode cX2_tell 102 = .ok (.goto (-82), 3) := by decide +kernel
theorem dX2_tell_105 : decode cX2_tell 105 = .ok (.aload_n 0, 1) := by decide +kernel
theorem dX2_tell_106 : decode cX2_tell 106 = .ok (.getfield 32, 3) := by decide +kernel
theorem dX2_tell_109 : decode cX2_tell 109 = .ok (.iload_n 1, 1) := by decide +kernel
theorem dX2_tell_110 : decode cX2_tell 110 = .ok (.iload_n 2, 1) := by decide +kernel
theorem dX2_tell_111 : decode cX2_tell 111 = .ok (.iastore, 1) := by decide +kernel
theorem dX2_tell_112 : decode cX2_tell 112 = .ok (.aload_n 0, 1) := by decide +kernel
theorem dX2_tell_113 : decode cX2_tell 113 = .ok (.getfield 28, 3) := by decide +kernel
theorem dX2_tell_116 : decode cX2_tell 116 = .ok (.iload_n 1, 1) := by decide +kernel
theorem dX2_tell_117 : decode cX2_tell 117 = .ok (.iconst 1, 1) := by decide +kernel
theorem dX2_tell_118 : decode cX2_tell 118 = .ok (.bastore, 1) := by decide +kernel
theorem dX2_tell_119 : decode cX2_tell 119 = .ok (.aload_n 0, 1) := by decide +kernel
theorem dX2_tell_120 : decode cX2_tell 120 = .ok (.getfield 32, 3) := by decide +kernel
theorem dX2_tell_123 : decode cX2_tell 123 = .ok (.iload_n 1, 1) := by decide +kernel
theorem dX2_tell_124 : decode cX2_tell 124 = .ok (.iaload, 1) := by decide +kernel
theorem dX2_tell_125 : decode cX2_tell 125 = .ok (.ireturn, 1) := by decide +kernel
theorem dX2_pairOf_0 : decode cX2_pairOf 0 = .ok (.aload_n 0, 1) := by decide +kernel
theorem dX2_pairOf_1 : decode cX2_pairOf 1 = .ok (.getfield 36, 3) := by decide +kernel
theorem dX2_pairOf_4 : decode cX2_pairOf 4 = .ok (.sipush 10000, 3) := by decide +kernel
theorem dX2_pairOf_7 : decode cX2_pairOf 7 = .ok (.iload_n 1, 1) := by decide +kernel
theorem dX2_pairOf_8 : decode cX2_pairOf 8 = .ok (.imul, 1) := by decide +kernel
theorem dX2_pairOf_9 : decode cX2_pairOf 9 = .ok (.iload_n 2, 1) := by decide +kernel
theorem dX2_pairOf_10 : decode cX2_pairOf 10 = .ok (.iadd, 1) := by decide +kernel
theorem dX2_pairOf_11 : decode cX2_pairOf 11 = .ok (.saload, 1) := by decide +kernel
theorem dX2_pairOf_12 : decode cX2_pairOf 12 = .ok (.ireturn, 1) := by decide +kernel
set_option maxRecDepth 20000 in
theorem ggX2_noVariant_X2_noKind : GoodIn wsX2_noVariant wsX2_noKind := goodIn_r _ [5, 6, 7, 8, 4, 9, 36, 37, 38, 39, 40, 41, 42, 43, 44, 45, 46, 47, 48, 49, 50, 51, 52, 53, 54, 55, 56] (by decide +kernel) (by decide +kernel)
set_option maxRecDepth 20000 in
theorem gX2_noVariant_X2_noKind : GoodIn wsX2_noVariant (wsV RX2 91 RX2 yX2_noKind wsX2_noKind) := goodIn_app (goodIn_of _ (by decide +kernel)) ggX2_noVariant_X2_noKind
set_option maxRecDepth 20000 in
theorem ggX2_noVariant_X2_tell : GoodIn wsX2_noVariant wsX2_tell := goodIn_r _ [13, 14, 15, 16, 17, 18, 19, 20, 21, 4, 22, 23, 24, 25, 26, 27, 7, 8, 9, 28, 29, 30, 31, 32, 33, 34, 35, 36, 37, 38, 39, 40, 41, 42, 43, 44, 45, 46, 47, 48, 49, 50, 51, 52, 53, 54, 55, 56] (by decide +kernel) (by decide +kernel)
set_option maxRecDepth 20000 in
theorem gX2_noVariant_X2_tell : GoodIn wsX2_noVariant (wsV RX2 95 RX2 yX2_tell wsX2_tell) := goodIn_app (goodIn_of _ (by decide +kernel)) ggX2_noVariant_X2_tell
set_option maxRecDepth 20000 in
theorem ggX2_noVariant_X2_in : GoodIn wsX2_noVariant wsX2_in := goodIn_r _ [9] (by decide +kernel) (by decide +kernel)
set_option maxRecDepth 20000 in
theorem gX2_noVariant_X2_in : GoodIn wsX2_noVariant (va_wsS RX2 65 yX2_in wsX2_in) := goodIn_app (goodIn_of _ (by decide +kernel)) ggX2_noVariant_X2_in
theorem dX2_noVariant_0 : decode cX2_noVariant 0 = .ok (.aload_n 0, 1) := by decide +kernel
theorem dX2_noVariant_1 : decode cX2_noVariant 1 = .ok (.iload_n 1, 1) := by decide +kernel
theorem dX2_noVariant_2 : decode cX2_noVariant 2 = .ok (.invokevirtual 91, 3) := by decide +kernel
theorem dX2_noVariant_5 : decode cX2_noVariant 5 = .ok (.ifCond .ne 20, 3) := by decide +kernel
theorem dX2_noVariant_8 : decode cX2_noVariant 8 = .ok (.iload_n 2, 1) := by decide +kernel
theorem dX2_noVariant_9 : decode cX2_noVariant 9 = .ok (.i2l, 1) := by decide +kernel
theorem dX2_noVariant_10 : decode cX2_noVariant 10 = .ok (.lconst 0, 1) := by decide +kernel
theorem dX2_noVariant_11 : decode cX2_noVariant 11 = .ok (.aload_n 0, 1) := by decide +kernel
theorem dX2_noVariant_12 : decode cX2_noVariant 12 = .ok (.iload_n 1, 1) := by decide +kernel
theorem dX2_noVariant_13 : decode cX2_noVariant 13 = .ok (.invokevirtual 95, 3) := by decide +kernel
theorem dX2_noVariant_16 : decode cX2_noVariant 16 = .ok (.iconst 1, 1) := by decide +kernel
theorem dX2_noVariant_17 : decode cX2_noVariant 17 = .ok (.isub, 1) := by decide +kernel
theorem dX2_noVariant_18 : decode cX2_noVariant 18 = .ok (.i2l, 1) := by decide +kernel
theorem dX2_noVariant_19 : decode cX2_noVariant 19 = .ok (.invokestatic 65, 3) := by decide +kernel
theorem dX2_noVariant_22 : decode cX2_noVariant 22 = .ok (.ifCond .ne 7, 3) := by decide +kernel
theorem dX2_noVariant_25 : decode cX2_noVariant 25 = .ok (.iconst 1, 1) := by decide +kernel
theorem dX2_noVariant_26 : decode cX2_noVariant 26 = .ok (.goto 4, 3) := by decide +kernel
theorem dX2_noVariant_29 : decode cX2_noVariant 29 = .ok (.iconst 0, 1) := by decide +kernel
theorem dX2_noVariant_30 : decode cX2_noVariant 30 = .ok (.ireturn, 1) := by decide +kernel
set_option maxRecDepth 20000 in
theorem ggX2_kind_X2_in : GoodIn wsX2_kind wsX2_in := goodIn_r _ [10] (by decide +kernel) (by decide +kernel)
set_option maxRecDepth 20000 in
theorem gX2_kind_X2_in : GoodIn wsX2_kind (va_wsS RX2 65 yX2_in wsX2_in) := goodIn_app (goodIn_of _ (by decide +kernel)) ggX2_kind_X2_in
theorem dX2_kind_0 : decode cX2_kind 0 = .ok (.aload_n 0, 1) := by decide +kernel
theorem dX2_kind_1 : decode cX2_kind 1 = .ok (.iconst 0, 1) := by decide +kernel
theorem dX2_kind_2 : decode cX2_kind 2 = .ok (.putfield 59, 3) := by decide +kernel
theorem dX2_kind_5 : decode cX2_kind 5 = .ok (.iload_n 1, 1) := by decide +kernel
theorem dX2_kind_6 : decode cX2_kind 6 = .ok (.i2l, 1) := by decide +kernel
theorem dX2_kind_7 : decode cX2_kind 7 = .ok (.lconst 0, 1) := by decide +kernel
theorem dX2_kind_8 : decode cX2_kind 8 = .ok (.ldc2_w 99, 3) := by decide +kernel
theorem dX2_kind_11 : decode cX2_kind 11 = .ok (.invokestatic 65, 3) := by decide +kernel
theorem dX2_kind_14 : decode cX2_kind 14 = .ok (.ifCond .ne 6, 3) := by decide +kernel
theorem dX2_kind_17 : decode cX2_kind 17 = .ok (.bipush (-2), 2) := by decide +kernel
theorem dX2_kind_19 : decode cX2_kind 19 = .ok (.ireturn, 1) := by decide +kernel
theorem dX2_kind_20 : decode cX2_kind 20 = .ok (.aload_n 0, 1) := by decide +kernel
theorem dX2_kind_21 : decode cX2_kind 21 = .ok (.getfield 62, 3) := by decide +kernel
theorem dX2_kind_24 : decode cX2_kind 24 = .ok (.bipush 8, 2) := by decide +kernel
theorem dX2_kind_26 : decode cX2_kind 26 = .ok (.if_icmp .ne 6, 3) := by decide +kernel
theorem dX2_kind_29 : decode cX2_kind 29 = .ok (.bipush (-4), 2) := by decide +kernel
theorem dX2_kind_31 : decode cX2_kind 31 = .ok (.ireturn, 1) := by decide +kernel
theorem dX2_kind_32 : decode cX2_kind 32 = .ok (.aload_n 0, 1) := by decide +kernel
theorem dX2_kind_33 : decode cX2_kind 33 = .ok (.getfield 7, 3) := by decide +kernel
theorem dX2_kind_36 : decode cX2_kind 36 = .ok (.aload_n 0, 1) := by decide +kernel
theorem dX2_kind_37 : decode cX2_kind 37 = .ok (.getfield 62, 3) := by decide +kernel
theorem dX2_kind_40 : decode cX2_kind 40 = .ok (.iload_n 1, 1) := by decide +kernel
theorem dX2_kind_41 : decode cX2_kind 41 = .ok (.iastore, 1) := by decide +kernel
theorem dX2_kind_42 : decode cX2_kind 42 = .ok (.aload_n 0, 1) := by decide +kernel
theorem dX2_kind_43 : decode cX2_kind 43 = .ok (.getfield 16, 3) := by decide +kernel
theorem dX2_kind_46 : decode cX2_kind 46 = .ok (.iconst 3, 1) := by decide +kernel
theorem dX2_kind_47 : decode cX2_kind 47 = .ok (.aload_n 0, 1) := by decide +kernel
theorem dX2_kind_48 : decode cX2_kind 48 = .ok (.getfield 62, 3) := by decide +kernel
theorem dX2_kind_51 : decode cX2_kind 51 = .ok (.imul, 1) := by decide +kernel
theorem dX2_kind_52 : decode cX2_kind 52 = .ok (.bipush 9, 2) := by decide +kernel
theorem dX2_kind_54 : decode cX2_kind 54 = .ok (.iastore, 1) := by decide +kernel
theorem dX2_kind_55 : decode cX2_kind 55 = .ok (.aload_n 0, 1) := by decide +kernel
theorem dX2_kind_56 : decode cX2_kind 56 = .ok (.getfield 16, 3) := by decide +kernel
theorem dX2_kind_59 : decode cX2_kind 59 = .ok (.iconst 3, 1) := by decide +kernel
theorem dX2_kind_60 : decode cX2_kind 60 = .ok (.aload_n 0, 1) := by decide +kernel
theorem dX2_kind_61 : decode cX2_kind 61 = .ok (.getfield 62, 3) := by decide +kernel
theorem dX2_kind_64 : decode cX2_kind 64 = .ok (.imul, 1) := by decide +kernel
theorem dX2_kind_65 : decode cX2_kind 65 = .ok (.iconst 1, 1) := by decide +kernel
theorem dX2_kind_66 : decode cX2_kind 66 = .ok (.iadd, 1) := by decide +kernel
theorem dX2_kind_67 : decode cX2_kind 67 = .ok (.bipush 9, 2) := by decide +kernel
theorem dX2_kind_69 : decode cX2_kind 69 = .ok (.iastore, 1) := by decide +kernel
theorem dX2_kind_70 : decode cX2_kind 70 = .ok (.aload_n 0, 1) := by decide +kernel
theorem dX2_kind_71 : decode cX2_kind 71 = .ok (.getfield 16, 3) := by decide +kernel
theorem dX2_kind_74 : decode cX2_kind 74 = .ok (.iconst 3, 1) := by decide +kernel
theorem dX2_kind_75 : decode cX2_kind 75 = .ok (.aload_n 0, 1) := by decide +kernel
theorem dX2_kind_76 : decode cX2_kind 76 = .ok (.getfield 62, 3) := by decide +kernel
theorem dX2_kind_79 : decode cX2_kind 79 = .ok (.imul, 1) := by decide +kernel
theorem dX2_kind_80 : decode cX2_kind 80 = .ok (.iconst 2, 1) := by decide +kernel
theorem dX2_kind_81 : decode cX2_kind 81 = .ok (.iadd, 1) := by decide +kernel
theorem dX2_kind_82 : decode cX2_kind 82 = .ok (.sipush 9999, 3) := by decide +kernel
theorem dX2_kind_85 : decode cX2_kind 85 = .ok (.iastore, 1) := by decide +kernel
theorem dX2_kind_86 : decode cX2_kind 86 = .ok (.aload_n 0, 1) := by decide +kernel
theorem dX2_kind_87 : decode cX2_kind 87 = .ok (.getfield 22, 3) := by decide +kernel
theorem dX2_kind_90 : decode cX2_kind 90 = .ok (.aload_n 0, 1) := by decide +kernel
theorem dX2_kind_91 : decode cX2_kind 91 = .ok (.getfield 62, 3) := by decide +kernel
theorem dX2_kind_94 : decode cX2_kind 94 = .ok (.iconst 1, 1) := by decide +kernel
theorem dX2_kind_95 : decode cX2_kind 95 = .ok (.iastore, 1) := by decide +kernel
