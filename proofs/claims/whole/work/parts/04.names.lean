theorem dX1_rule_25 : decode cX1_rule 25 = .ok (.iload_n 1, 1) := by decide +kernel
theorem dX1_rule_26 : decode cX1_rule 26 = .ok (.aaload, 1) := by decide +kernel
theorem dX1_rule_27 : decode cX1_rule 27 = .ok (.iload_n 2, 1) := by decide +kernel
theorem dX1_rule_28 : decode cX1_rule 28 = .ok (.iload_n 3, 1) := by decide +kernel
theorem dX1_rule_29 : decode cX1_rule 29 = .ok (.invokevirtual 75, 3) := by decide +kernel
theorem dX1_rule_32 : decode cX1_rule 32 = .ok (.ireturn, 1) := by decide +kernel
set_option maxRecDepth 20000 in
theorem ggX1_variants_X1_isKind : GoodIn wsX1_variants wsX1_isKind := goodIn_r _ [6, 7, 14, 15, 16, 17, 18, 19, 20, 21, 22, 23, 24, 25] (by decide +kernel) (by decide +kernel)
set_option maxRecDepth 20000 in
theorem gX1_variants_X1_isKind : GoodIn wsX1_variants (wsV RX1 55 RX1 yX1_isKind wsX1_isKind) := goodIn_app (goodIn_of _ (by decide +kernel)) ggX1_variants_X1_isKind
set_option maxRecDepth 20000 in
theorem ggX1_variants_X0_size : GoodIn wsX1_variants wsX0_size := goodIn_r _ [12, 13, 26, 27, 28, 29, 30, 31, 32] (by decide +kernel) (by decide +kernel)
set_option maxRecDepth 20000 in
theorem gX1_variants_X0_size : GoodIn wsX1_variants (wsV RX1 67 RX0 yX0_size wsX0_size) := goodIn_app (goodIn_of _ (by decide +kernel)) ggX1_variants_X0_size
theorem dX1_variants_0 : decode cX1_variants 0 = .ok (.aload_n 0, 1) := by decide +kernel
theorem dX1_variants_1 : decode cX1_variants 1 = .ok (.iload_n 1, 1) := by decide +kernel
theorem dX1_variants_2 : decode cX1_variants 2 = .ok (.invokevirtual 55, 3) := by decide +kernel
theorem dX1_variants_5 : decode cX1_variants 5 = .ok (.ifCond .eq 15, 3) := by decide +kernel
theorem dX1_variants_8 : decode cX1_variants 8 = .ok (.aload_n 0, 1) := by decide +kernel
theorem dX1_variants_9 : decode cX1_variants 9 = .ok (.getfield 11, 3) := by decide +kernel
theorem dX1_variants_12 : decode cX1_variants 12 = .ok (.iload_n 1, 1) := by decide +kernel
theorem dX1_variants_13 : decode cX1_variants 13 = .ok (.aaload, 1) := by decide +kernel
theorem dX1_variants_14 : decode cX1_variants 14 = .ok (.invokevirtual 67, 3) := by decide +kernel
theorem dX1_variants_17 : decode cX1_variants 17 = .ok (.goto 4, 3) := by decide +kernel
theorem dX1_variants_20 : decode cX1_variants 20 = .ok (.iconst (-1), 1) := by decide +kernel
theorem dX1_variants_21 : decode cX1_variants 21 = .ok (.ireturn, 1) := by decide +kernel
set_option maxRecDepth 20000 in
theorem ggX1_variant_X1_isVariant : GoodIn wsX1_variant wsX1_isVariant := goodIn_r _ [6, 1, 7, 8, 9, 5, 10, 11, 12, 13, 14, 15, 16, 17, 45, 46, 47, 48, 49, 50, 51, 52, 53, 54, 55, 56, 57, 58, 59, 60, 61, 62, 63] (by decide +kernel) (by decide +kernel)
set_option maxRecDepth 20000 in
theorem gX1_variant_X1_isVariant : GoodIn wsX1_variant (wsV RX1 79 RX1 yX1_isVariant wsX1_isVariant) := goodIn_app (goodIn_of _ (by decide +kernel)) ggX1_variant_X1_isVariant
set_option maxRecDepth 20000 in
theorem ggX1_variant_X0_pairAt : GoodIn wsX1_variant wsX0_pairAt := goodIn_r _ [21, 22, 23, 24, 25, 26, 27, 15, 28, 29, 30, 31, 32, 33, 34, 35, 36, 37, 38, 39, 40, 41, 42, 57, 58, 59, 60, 61, 62, 63] (by decide +kernel) (by decide +kernel)
set_option maxRecDepth 20000 in
theorem gX1_variant_X0_pairAt : GoodIn wsX1_variant (wsV RX1 82 RX0 yX0_pairAt wsX0_pairAt) := goodIn_app (goodIn_of _ (by decide +kernel)) ggX1_variant_X0_pairAt
set_option maxRecDepth 20000 in
theorem ggX1_variant_X0_result : GoodIn wsX1_variant wsX0_result := goodIn_r _ [33, 34, 57, 58, 59, 60, 61, 62, 63] (by decide +kernel) (by decide +kernel)
set_option maxRecDepth 20000 in
theorem gX1_variant_X0_result : GoodIn wsX1_variant (wsV RX1 86 RX0 yX0_result wsX0_result) := goodIn_app (goodIn_of _ (by decide +kernel)) ggX1_variant_X0_result
set_option maxRecDepth 20000 in
theorem ggX1_variant_X0_carries : GoodIn wsX1_variant wsX0_carries := goodIn_r _ [38, 34, 57, 58, 59, 60, 61, 62, 63] (by decide +kernel) (by decide +kernel)
set_option maxRecDepth 20000 in
theorem gX1_variant_X0_carries : GoodIn wsX1_variant (wsV RX1 89 RX0 yX0_carries wsX0_carries) := goodIn_app (goodIn_of _ (by decide +kernel)) ggX1_variant_X0_carries
theorem dX1_variant_0 : decode cX1_variant 0 = .ok (.aload_n 0, 1) := by decide +kernel
theorem dX1_variant_1 : decode cX1_variant 1 = .ok (.iload_n 1, 1) := by decide +kernel
theorem dX1_variant_2 : decode cX1_variant 2 = .ok (.iload_n 2, 1) := by decide +kernel
theorem dX1_variant_3 : decode cX1_variant 3 = .ok (.invokevirtual 79, 3) := by decide +kernel
theorem dX1_variant_6 : decode cX1_variant 6 = .ok (.ifCond .ne 5, 3) := by decide +kernel
theorem dX1_variant_9 : decode cX1_variant 9 = .ok (.iconst (-1), 1) := by decide +kernel
theorem dX1_variant_10 : decode cX1_variant 10 = .ok (.ireturn, 1) := by decide +kernel
theorem dX1_variant_11 : decode cX1_variant 11 = .ok (.aload_n 0, 1) := by decide +kernel
theorem dX1_variant_12 : decode cX1_variant 12 = .ok (.getfield 11, 3) := by decide +kernel
theorem dX1_variant_15 : decode cX1_variant 15 = .ok (.iload_n 1, 1) := by decide +kernel
theorem dX1_variant_16 : decode cX1_variant 16 = .ok (.aaload, 1) := by decide +kernel
theorem dX1_variant_17 : decode cX1_variant 17 = .ok (.iload_n 2, 1) := by decide +kernel
theorem dX1_variant_18 : decode cX1_variant 18 = .ok (.invokevirtual 82, 3) := by decide +kernel
theorem dX1_variant_21 : decode cX1_variant 21 = .ok (.istore 4, 2) := by decide +kernel
theorem dX1_variant_23 : decode cX1_variant 23 = .ok (.iload 4, 2) := by decide +kernel
theorem dX1_variant_25 : decode cX1_variant 25 = .ok (.bipush 100, 2) := by decide +kernel
theorem dX1_variant_27 : decode cX1_variant 27 = .ok (.idiv, 1) := by decide +kernel
theorem dX1_variant_28 : decode cX1_variant 28 = .ok (.istore 5, 2) := by decide +kernel
theorem dX1_variant_30 : decode cX1_variant 30 = .ok (.iload 4, 2) := by decide +kernel
theorem dX1_variant_32 : decode cX1_variant 32 = .ok (.bipush 100, 2) := by decide +kernel
theorem dX1_variant_34 : decode cX1_variant 34 = .ok (.irem, 1) := by decide +kernel
theorem dX1_variant_35 : decode cX1_variant 35 = .ok (.istore 6, 2) := by decide +kernel
theorem dX1_variant_37 : decode cX1_variant 37 = .ok (.iload_n 3, 1) := by decide +kernel
theorem dX1_variant_38 : decode cX1_variant 38 = .ok (.tableswitch 72 0 3 #[30, 33, 36, 50], 30) := by decide +kernel
theorem dX1_variant_68 : decode cX1_variant 68 = .ok (.iload 5, 2) := by decide +kernel
theorem dX1_variant_70 : decode cX1_variant 70 = .ok (.ireturn, 1) := by decide +kernel
theorem dX1_variant_71 : decode cX1_variant 71 = .ok (.iload 6, 2) := by decide +kernel
theorem dX1_variant_73 : decode cX1_variant 73 = .ok (.ireturn, 1) := by decide +kernel
theorem dX1_variant_74 : decode cX1_variant 74 = .ok (.aload_n 0, 1) := by decide +kernel
theorem dX1_variant_75 : decode cX1_variant 75 = .ok (.getfield 11, 3) := by decide +kernel
theorem dX1_variant_78 : decode cX1_variant 78 = .ok (.iload_n 1, 1) := by decide +kernel
theorem dX1_variant_79 : decode cX1_variant 79 = .ok (.aaload, 1) := by decide +kernel
theorem dX1_variant_80 : decode cX1_variant 80 = .ok (.iload 5, 2) := by decide +kernel
theorem dX1_variant_82 : decode cX1_variant 82 = .ok (.iload 6, 2) := by decide +kernel
theorem dX1_variant_84 : decode cX1_variant 84 = .ok (.invokevirtual 86, 3) := by decide +kernel
theorem dX1_variant_87 : decode cX1_variant 87 = .ok (.ireturn, 1) := by decide +kernel
theorem dX1_variant_88 : decode cX1_variant 88 = .ok (.aload_n 0, 1) := by decide +kernel
theorem dX1_variant_89 : decode cX1_variant 89 = .ok (.getfield 11, 3) := by decide +kernel
theorem dX1_variant_92 : decode cX1_variant 92 = .ok (.iload_n 1, 1) := by decide +kernel
theorem dX1_variant_93 : decode cX1_variant 93 = .ok (.aaload, 1) := by decide +kernel
theorem dX1_variant_94 : decode cX1_variant 94 = .ok (.iload 5, 2) := by decide +kernel
theorem dX1_variant_96 : decode cX1_variant 96 = .ok (.iload 6, 2) := by decide +kernel
theorem dX1_variant_98 : decode cX1_variant 98 = .ok (.invokevirtual 89, 3) := by decide +kernel
theorem dX1_variant_101 : decode cX1_variant 101 = .ok (.ifCond .eq 7, 3) := by decide +kernel
theorem dX1_variant_104 : decode cX1_variant 104 = .ok (.iconst 1, 1) := by decide +kernel
theorem dX1_variant_105 : decode cX1_variant 105 = .ok (.goto 4, 3) := by decide +kernel
theorem dX1_variant_108 : decode cX1_variant 108 = .ok (.iconst 0, 1) := by decide +kernel
theorem dX1_variant_109 : decode cX1_variant 109 = .ok (.ireturn, 1) := by decide +kernel
theorem dX1_variant_110 : decode cX1_variant 110 = .ok (.bipush (-2), 2) := by decide +kernel
theorem dX1_variant_112 : decode cX1_variant 112 = .ok (.ireturn, 1) := by decide +kernel
set_option maxRecDepth 20000 in
theorem ggX1_find_X1_isKind : GoodIn wsX1_find wsX1_isKind := goodIn_r _ [6, 7, 38, 39, 40, 41, 42, 43, 44, 45, 46, 47, 48, 49] (by decide +kernel) (by decide +kernel)
set_option maxRecDepth 20000 in
theorem gX1_find_X1_isKind : GoodIn wsX1_find (wsV RX1 55 RX1 yX1_isKind wsX1_isKind) := goodIn_app (goodIn_of _ (by decide +kernel)) ggX1_find_X1_isKind
set_option maxRecDepth 20000 in
theorem ggX1_find_X0_numberOf : GoodIn wsX1_find wsX0_numberOf := goodIn_r _ [12, 13, 14, 15, 16, 17, 18, 11, 19, 20, 21, 22, 23, 24, 25, 26, 27, 28, 29, 30, 31, 32, 33, 34, 35, 36, 37, 50, 51, 52, 53, 54, 55, 56] (by decide +kernel) (by decide +kernel)
set_option maxRecDepth 20000 in
theorem gX1_find_X0_numberOf : GoodIn wsX1_find (wsV RX1 92 RX0 yX0_numberOf wsX0_numberOf) := goodIn_app (goodIn_of _ (by decide +kernel)) ggX1_find_X0_numberOf
theorem dX1_find_0 : decode cX1_find 0 = .ok (.aload_n 0, 1) := by decide +kernel
theorem dX1_find_1 : decode cX1_find 1 = .ok (.iload_n 1, 1) := by decide +kernel
theorem dX1_find_2 : decode cX1_find 2 = .ok (.invokevirtual 55, 3) := by decide +kernel
theorem dX1_find_5 : decode cX1_find 5 = .ok (.ifCond .eq 17, 3) := by decide +kernel
theorem dX1_find_8 : decode cX1_find 8 = .ok (.aload_n 0, 1) := by decide +kernel
theorem dX1_find_9 : decode cX1_find 9 = .ok (.getfield 11, 3) := by decide +kernel
theorem dX1_find_12 : decode cX1_find 12 = .ok (.iload_n 1, 1) := by decide +kernel
theorem dX1_find_13 : decode cX1_find 13 = .ok (.aaload, 1) := by decide +kernel
theorem dX1_find_14 : decode cX1_find 14 = .ok (.iload_n 2, 1) := by decide +kernel
theorem dX1_find_15 : decode cX1_find 15 = .ok (.iload_n 3, 1) := by decide +kernel
theorem dX1_find_16 : decode cX1_find 16 = .ok (.invokevirtual 92, 3) := by decide +kernel
theorem dX1_find_19 : decode cX1_find 19 = .ok (.goto 4, 3) := by decide +kernel
theorem dX1_find_22 : decode cX1_find 22 = .ok (.iconst (-1), 1) := by decide +kernel
theorem dX1_find_23 : decode cX1_find 23 = .ok (.ireturn, 1) := by decide +kernel
set_option maxRecDepth 20000 in
theorem ggX1_slip_X1_isVariant : GoodIn wsX1_slip wsX1_isVariant := goodIn_r _ [6, 1, 7, 8, 9, 5, 10, 11, 12, 13, 14, 15, 16, 17, 58, 59, 60, 61, 62, 63, 64, 65, 66, 67, 68, 69, 70, 71, 72, 73, 74, 75, 76] (by decide +kernel) (by decide +kernel)
set_option maxRecDepth 20000 in
theorem gX1_slip_X1_isVariant : GoodIn wsX1_slip (wsV RX1 79 RX1 yX1_isVariant wsX1_isVariant) := goodIn_app (goodIn_of _ (by decide +kernel)) ggX1_slip_X1_isVariant
set_option maxRecDepth 20000 in
theorem ggX1_slip_X0_pairAt : GoodIn wsX1_slip wsX0_pairAt := goodIn_r _ [21, 22, 23, 24, 25, 26, 27, 15, 28, 29, 30, 31, 32, 33, 34, 35, 36, 37, 38, 39, 40, 41, 42, 70, 71, 72, 73, 74, 75, 76] (by decide +kernel) (by decide +kernel)
set_option maxRecDepth 20000 in
theorem gX1_slip_X0_pairAt : GoodIn wsX1_slip (wsV RX1 82 RX0 yX0_pairAt wsX0_pairAt) := goodIn_app (goodIn_of _ (by decide +kernel)) ggX1_slip_X0_pairAt
set_option maxRecDepth 20000 in
theorem ggX1_slip_X0_slipped : GoodIn wsX1_slip wsX0_slipped := goodIn_r _ [46, 30, 31, 32, 15, 33, 34, 39, 40, 41, 42, 35, 36, 37, 38, 47, 48, 49, 50, 51, 52, 53, 54, 55, 56, 57, 70, 71, 72, 73, 74, 75, 76] (by decide +kernel) (by decide +kernel)
set_option maxRecDepth 20000 in
theorem gX1_slip_X0_slipped : GoodIn wsX1_slip (wsV RX1 95 RX0 yX0_slipped wsX0_slipped) := goodIn_app (goodIn_of _ (by decide +kernel)) ggX1_slip_X0_slipped
theorem dX1_slip_0 : decode cX1_slip 0 = .ok (.aload_n 0, 1) := by decide +kernel
theorem dX1_slip_1 : decode cX1_slip 1 = .ok (.iload_n 1, 1) := by decide +kernel
theorem dX1_slip_2 : decode cX1_slip 2 = .ok (.iload_n 2, 1) := by decide +kernel
theorem dX1_slip_3 : decode cX1_slip 3 = .ok (.invokevirtual 79, 3) := by decide +kernel
theorem dX1_slip_6 : decode cX1_slip 6 = .ok (.ifCond .ne 5, 3) := by decide +kernel
theorem dX1_slip_9 : decode cX1_slip 9 = .ok (.iconst (-1), 1) := by decide +kernel
theorem dX1_slip_10 : decode cX1_slip 10 = .ok (.ireturn, 1) := by decide +kernel
theorem dX1_slip_11 : decode cX1_slip 11 = .ok (.iload_n 3, 1) := by decide +kernel
theorem dX1_slip_12 : decode cX1_slip 12 = .ok (.iconst 1, 1) := by decide +kernel
theorem dX1_slip_13 : decode cX1_slip 13 = .ok (.if_icmp .lt 8, 3) := by decide +kernel
theorem dX1_slip_16 : decode cX1_slip 16 = .ok (.iload_n 3, 1) := by decide +kernel
theorem dX1_slip_17 : decode cX1_slip 17 = .ok (.iconst 5, 1) := by decide +kernel
theorem dX1_slip_18 : decode cX1_slip 18 = .ok (.if_icmp .le 6, 3) := by decide +kernel
theorem dX1_slip_21 : decode cX1_slip 21 = .ok (.bipush (-2), 2) := by decide +kernel
theorem dX1_slip_23 : decode cX1_slip 23 = .ok (.ireturn, 1) := by decide +kernel
theorem dX1_slip_24 : decode cX1_slip 24 = .ok (.aload_n 0, 1) := by decide +kernel
theorem dX1_slip_25 : decode cX1_slip 25 = .ok (.getfield 11, 3) := by decide +kernel
theorem dX1_slip_28 : decode cX1_slip 28 = .ok (.iload_n 1, 1) := by decide +kernel
theorem dX1_slip_29 : decode cX1_slip 29 = .ok (.aaload, 1) := by decide +kernel
theorem dX1_slip_30 : decode cX1_slip 30 = .ok (.iload_n 2, 1) := by decide +kernel
theorem dX1_slip_31 : decode cX1_slip 31 = .ok (.invokevirtual 82, 3) := by decide +kernel
theorem dX1_slip_34 : decode cX1_slip 34 = .ok (.istore 4, 2) := by decide +kernel
theorem dX1_slip_36 : decode cX1_slip 36 = .ok (.aload_n 0, 1) := by decide +kernel
theorem dX1_slip_37 : decode cX1_slip 37 = .ok (.getfield 11, 3) := by decide +kernel
theorem dX1_slip_40 : decode cX1_slip 40 = .ok (.iload_n 1, 1) := by decide +kernel
theorem dX1_slip_41 : decode cX1_slip 41 = .ok (.aaload, 1) := by decide +kernel
theorem dX1_slip_42 : decode cX1_slip 42 = .ok (.iload 4, 2) := by decide +kernel
theorem dX1_slip_44 : decode cX1_slip 44 = .ok (.bipush 100, 2) := by decide +kernel
theorem dX1_slip_46 : decode cX1_slip 46 = .ok (.idiv, 1) := by decide +kernel
theorem dX1_slip_47 : decode cX1_slip 47 = .ok (.iload 4, 2) := by decide +kernel
theorem dX1_slip_49 : decode cX1_slip 49 = .ok (.bipush 100, 2) := by decide +kernel
theorem dX1_slip_51 : decode cX1_slip 51 = .ok (.irem, 1) := by decide +kernel
theorem dX1_slip_52 : decode cX1_slip 52 = .ok (.iload_n 3, 1) := by decide +kernel
theorem dX1_slip_53 : decode cX1_slip 53 = .ok (.invokevirtual 95, 3) := by decide +kernel
theorem dX1_slip_56 : decode cX1_slip 56 = .ok (.ireturn, 1) := by decide +kernel
set_option maxRecDepth 20000 in
theorem ggX1_tells_X1_isVariant : GoodIn wsX1_tells wsX1_isVariant := goodIn_r _ [6, 1, 7, 8, 9, 5, 10, 11, 12, 13, 14, 15, 16, 17, 62, 63, 64, 65, 66, 67, 68, 69, 70, 71, 72, 73, 74, 75, 76, 77, 78, 79, 80] (by decide +kernel) (by decide +kernel)
set_option maxRecDepth 20000 in
theorem gX1_tells_X1_isVariant : GoodIn wsX1_tells (wsV RX1 79 RX1 yX1_isVariant wsX1_isVariant) := goodIn_app (goodIn_of _ (by decide +kernel)) ggX1_tells_X1_isVariant
set_option maxRecDepth 20000 in
theorem ggX1_tells_X0_slipBehind : GoodIn wsX1_tells wsX0_slipBehind := goodIn_r _ [21, 22, 23, 24, 15, 25, 26, 27, 28, 29, 30, 31, 32, 33, 34, 35, 36, 37, 38, 39, 40, 41, 42, 43, 44, 45, 46, 47, 48, 49, 50, 51, 52, 53, 54, 55, 56, 57, 58, 59, 60, 61, 74, 75, 76, 77, 78, 79, 80] (by decide +kernel) (by decide +kernel)
set_option maxRecDepth 20000 in
theorem gX1_tells_X0_slipBehind : GoodIn wsX1_tells (wsV RX1 99 RX0 yX0_slipBehind wsX0_slipBehind) := goodIn_app (goodIn_of _ (by decide +kernel)) ggX1_tells_X0_slipBehind
theorem dX1_tells_0 : decode cX1_tells 0 = .ok (.aload_n 0, 1) := by decide +kernel
theorem dX1_tells_1 : decode cX1_tells 1 = .ok (.iload_n 1, 1) := by decide +kernel
theorem dX1_tells_2 : decode cX1_tells 2 = .ok (.iload_n 2, 1) := by decide +kernel
theorem dX1_tells_3 : decode cX1_tells 3 = .ok (.invokevirtual 79, 3) := by decide +kernel
theorem dX1_tells_6 : decode cX1_tells 6 = .ok (.ifCond .eq 17, 3) := by decide +kernel
theorem dX1_tells_9 : decode cX1_tells 9 = .ok (.aload_n 0, 1) := by decide +kernel
theorem dX1_tells_10 : decode cX1_tells 10 = .ok (.getfield 11, 3) := by decide +kernel
theorem dX1_tells_13 : decode cX1_tells 13 = .ok (.iload_n 1, 1) := by decide +kernel
theorem dX1_tells_14 : decode cX1_tells 14 = .ok (.aaload, 1) := by decide +kernel
theorem dX1_tells_15 : decode cX1_tells 15 = .ok (.iload_n 2, 1) := by decide +kernel
theorem dX1_tells_16 : decode cX1_tells 16 = .ok (.iload_n 3, 1) := by decide +kernel
theorem dX1_tells_17 : decode cX1_tells 17 = .ok (.invokevirtual 99, 3) := by decide +kernel
theorem dX1_tells_20 : decode cX1_tells 20 = .ok (.goto 4, 3) := by decide +kernel
theorem dX1_tells_23 : decode cX1_tells 23 = .ok (.iconst (-1), 1) := by decide +kernel
theorem dX1_tells_24 : decode cX1_tells 24 = .ok (.ireturn, 1) := by decide +kernel
theorem dX1_isKind_0 : decode cX1_isKind 0 = .ok (.iload_n 1, 1) := by decide +kernel
theorem dX1_isKind_1 : decode cX1_isKind 1 = .ok (.ifCond .lt 15, 3) := by decide +kernel
theorem dX1_isKind_4 : decode cX1_isKind 4 = .ok (.iload_n 1, 1) := by decide +kernel
theorem dX1_isKind_5 : decode cX1_isKind 5 = .ok (.aload_n 0, 1) := by decide +kernel
theorem dX1_isKind_6 : decode cX1_isKind 6 = .ok (.getfield 15, 3) := by decide +kernel
theorem dX1_isKind_9 : decode cX1_isKind 9 = .ok (.if_icmp .ge 7, 3) := by decide +kernel
theorem dX1_isKind_12 : decode cX1_isKind 12 = .ok (.iconst 1, 1) := by decide +kernel
theorem dX1_isKind_13 : decode cX1_isKind 13 = .ok (.goto 4, 3) := by decide +kernel
theorem dX1_isKind_16 : decode cX1_isKind 16 = .ok (.iconst 0, 1) := by decide +kernel
theorem dX1_isKind_17 : decode cX1_isKind 17 = .ok (.ireturn, 1) := by decide +kernel
set_option maxRecDepth 20000 in
theorem ggX1_isVariant_X1_isKind : GoodIn wsX1_isVariant wsX1_isKind := goodIn_r _ [6, 7, 14, 15, 16, 17, 18, 19, 20, 21, 22, 23, 24, 25] (by decide +kernel) (by decide +kernel)
set_option maxRecDepth 20000 in
theorem gX1_isVariant_X1_isKind : GoodIn wsX1_isVariant (wsV RX1 55 RX1 yX1_isKind wsX1_isKind) := goodIn_app (goodIn_of _ (by decide +kernel)) ggX1_isVariant_X1_isKind
set_option maxRecDepth 20000 in
theorem ggX1_isVariant_X0_size : GoodIn wsX1_isVariant wsX0_size := goodIn_r _ [12, 13, 26, 27, 28, 29, 30, 31, 32] (by decide +kernel) (by decide +kernel)
set_option maxRecDepth 20000 in
theorem gX1_isVariant_X0_size : GoodIn wsX1_isVariant (wsV RX1 67 RX0 yX0_size wsX0_size) := goodIn_app (goodIn_of _ (by decide +kernel)) ggX1_isVariant_X0_size
theorem dX1_isVariant_0 : decode cX1_isVariant 0 = .ok (.aload_n 0, 1) := by decide +kernel
theorem dX1_isVariant_1 : decode cX1_isVariant 1 = .ok (.iload_n 1, 1) := by decide +kernel
theorem dX1_isVariant_2 : decode cX1_isVariant 2 = .ok (.invokevirtual 55, 3) := by decide +kernel
theorem dX1_isVariant_5 : decode cX1_isVariant 5 = .ok (.ifCond .eq 24, 3) := by decide +kernel
theorem dX1_isVariant_8 : decode cX1_isVariant 8 = .ok (.iload_n 2, 1) := by decide +kernel
theorem dX1_isVariant_9 : decode cX1_isVariant 9 = .ok (.ifCond .lt 20, 3) := by decide +kernel
theorem dX1_isVariant_12 : decode cX1_isVariant 12 = .ok (.iload_n 2, 1) := by decide +kernel
theorem dX1_isVariant_13 : decode cX1_isVariant 13 = .ok (.aload_n 0, 1) := by decide +kernel
theorem dX1_isVariant_14 : decode cX1_isVariant 14 = .ok (.getfield 11, 3) := by decide +kernel
theorem dX1_isVariant_17 : decode cX1_isVariant 17 = .ok (.iload_n 1, 1) := by decide +kernel
theorem dX1_isVariant_18 : decode cX1_isVariant 18 = .ok (.aaload, 1) := by decide +kernel
theorem dX1_isVariant_19 : decode cX1_isVariant 19 = .ok (.invokevirtual 67, 3) := by decide +kernel
theorem dX1_isVariant_22 : decode cX1_isVariant 22 = .ok (.if_icmp .ge 7, 3) := by decide +kernel
theorem dX1_isVariant_25 : decode cX1_isVariant 25 = .ok (.iconst 1, 1) := by decide +kernel
theorem dX1_isVariant_26 : decode cX1_isVariant 26 = .ok (.goto 4, 3) := by decide +kernel
theorem dX1_isVariant_29 : decode cX1_isVariant 29 = .ok (.iconst 0, 1) := by decide +kernel
theorem dX1_isVariant_30 : decode cX1_isVariant 30 = .ok (.ireturn, 1) := by decide +kernel
set_option maxRecDepth 20000 in
theorem ggX1_plan_X1_isKind : GoodIn wsX1_plan wsX1_isKind := goodIn_r _ [9, 10, 17, 18, 19, 20, 21, 22, 23, 24, 25, 26, 27, 28] (by decide +kernel) (by decide +kernel)
set_option maxRecDepth 20000 in
theorem gX1_plan_X1_isKind : GoodIn wsX1_plan (wsV RX1 55 RX1 yX1_isKind wsX1_isKind) := goodIn_app (goodIn_of _ (by decide +kernel)) ggX1_plan_X1_isKind
set_option maxRecDepth 20000 in
theorem ggX1_plan_X0_addPlace : GoodIn wsX1_plan wsX0_addPlace := goodIn_r _ [15, 16, 29, 30, 31, 32, 33, 34, 35] (by decide +kernel) (by decide +kernel)
set_option maxRecDepth 20000 in
theorem gX1_plan_X0_addPlace : GoodIn wsX1_plan (wsV RX1 102 RX0 yX0_addPlace wsX0_addPlace) := goodIn_app (goodIn_of _ (by decide +kernel)) ggX1_plan_X0_addPlace
theorem dX1_plan_0 : decode cX1_plan 0 = .ok (.aload_n 0, 1) := by decide +kernel
theorem dX1_plan_1 : decode cX1_plan 1 = .ok (.iload_n 1, 1) := by decide +kernel
theorem dX1_plan_2 : decode cX1_plan 2 = .ok (.invokevirtual 55, 3) := by decide +kernel
theorem dX1_plan_5 : decode cX1_plan 5 = .ok (.ifCond .ne 5, 3) := by decide +kernel
theorem dX1_plan_8 : decode cX1_plan 8 = .ok (.iconst (-1), 1) := by decide +kernel
theorem dX1_plan_9 : decode cX1_plan 9 = .ok (.ireturn, 1) := by decide +kernel
theorem dX1_plan_10 : decode cX1_plan 10 = .ok (.iload_n 2, 1) := by decide +kernel
theorem dX1_plan_11 : decode cX1_plan 11 = .ok (.iconst 1, 1) := by decide +kernel
theorem dX1_plan_12 : decode cX1_plan 12 = .ok (.if_icmp .lt 9, 3) := by decide +kernel
theorem dX1_plan_15 : decode cX1_plan 15 = .ok (.iload_n 2, 1) := by decide +kernel
theorem dX1_plan_16 : decode cX1_plan 16 = .ok (.bipush 40, 2) := by decide +kernel
theorem dX1_plan_18 : decode cX1_plan 18 = .ok (.if_icmp .le 6, 3) := by decide +kernel
theorem dX1_plan_21 : decode cX1_plan 21 = .ok (.bipush (-2), 2) := by decide +kernel
theorem dX1_plan_23 : decode cX1_plan 23 = .ok (.ireturn, 1) := by decide +kernel
theorem dX1_plan_24 : decode cX1_plan 24 = .ok (.iload_n 2, 1) := by decide +kernel
theorem dX1_plan_25 : decode cX1_plan 25 = .ok (.bipush 40, 2) := by decide +kernel
theorem dX1_plan_27 : decode cX1_plan 27 = .ok (.aload_n 0, 1) := by decide +kernel
theorem dX1_plan_28 : decode cX1_plan 28 = .ok (.getfield 26, 3) := by decide +kernel
theorem dX1_plan_31 : decode cX1_plan 31 = .ok (.isub, 1) := by decide +kernel
theorem dX1_plan_32 : decode cX1_plan 32 = .ok (.if_icmp .le 6, 3) := by decide +kernel
theorem dX1_plan_35 : decode cX1_plan 35 = .ok (.bipush (-4), 2) := by decide +kernel
theorem dX1_plan_37 : decode cX1_plan 37 = .ok (.ireturn, 1) := by decide +kernel
theorem dX1_plan_38 : decode cX1_plan 38 = .ok (.iconst 0, 1) := by decide +kernel
theorem dX1_plan_39 : decode cX1_plan 39 = .ok (.istore_n 3, 1) := by decide +kernel
theorem dX1_plan_40 : decode cX1_plan 40 = .ok (.iload_n 3, 1) := by decide +kernel
theorem dX1_plan_41 : decode cX1_plan 41 = .ok (.iload_n 2, 1) := by decide +kernel
theorem dX1_plan_42 : decode cX1_plan 42 = .ok (.if_icmp .ge 47, 3) := by decide +kernel
theorem dX1_plan_45 : decode cX1_plan 45 = .ok (.aload_n 0, 1) := by decide +kernel
theorem dX1_plan_46 : decode cX1_plan 46 = .ok (.getfield 19, 3) := by decide +kernel
theorem dX1_plan_49 : decode cX1_plan 49 = .ok (.aload_n 0, 1) := by decide +kernel
theorem dX1_plan_50 : decode cX1_plan 50 = .ok (.getfield 26, 3) := by decide +kernel
theorem dX1_plan_53 : decode cX1_plan 53 = .ok (.iload_n 1, 1) := by decide +kernel
theorem dX1_plan_54 : decode cX1_plan 54 = .ok (.iastore, 1) := by decide +kernel
theorem dX1_plan_55 : decode cX1_plan 55 = .ok (.aload_n 0, 1) := by decide +kernel
theorem dX1_plan_56 : decode cX1_plan 56 = .ok (.getfield 23, 3) := by decide +kernel
theorem dX1_plan_59 : decode cX1_plan 59 = .ok (.aload_n 0, 1) := by decide +kernel
theorem dX1_plan_60 : decode cX1_plan 60 = .ok (.getfield 26, 3) := by decide +kernel
theorem dX1_plan_63 : decode cX1_plan 63 = .ok (.aload_n 0, 1) := by decide +kernel
theorem dX1_plan_64 : decode cX1_plan 64 = .ok (.getfield 11, 3) := by decide +kernel
theorem dX1_plan_67 : decode cX1_plan 67 = .ok (.iload_n 1, 1) := by decide +kernel
theorem dX1_plan_68 : decode cX1_plan 68 = .ok (.aaload, 1) := by decide +kernel
theorem dX1_plan_69 : decode cX1_plan 69 = .ok (.invokevirtual 102, 3) := by decide +kernel
theorem dX1_plan_72 : decode cX1_plan 72 = .ok (.iastore, 1) := by decide +kernel
theorem dX1_plan_73 : decode cX1_plan 73 = .ok (.aload_n 0, 1) := by decide +kernel
theorem dX1_plan_74 : decode cX1_plan 74 = .ok (.dup, 1) := by decide +kernel
theorem dX1_plan_75 : decode cX1_plan 75 = .ok (.getfield 26, 3) := by decide +kernel
theorem dX1_plan_78 : decode cX1_plan 78 = .ok (.iconst 1, 1) := by decide +kernel
theorem dX1_plan_79 : decode cX1_plan 79 = .ok (.iadd, 1) := by decide +kernel
theorem dX1_plan_80 : decode cX1_plan 80 = .ok (.putfield 26, 3) := by decide +kernel
theorem dX1_plan_83 : decode cX1_plan 83 = .ok (.iinc 3 1, 3) := by decide +kernel
theorem dX1_plan_86 : decode cX1_plan 86 = .ok (.goto (-46), 3) := by decide +kernel
theorem dX1_plan_89 : decode cX1_plan 89 = .ok (.aload_n 0, 1) := by decide +kernel
theorem dX1_plan_90 : decode cX1_plan 90 = .ok (.getfield 26, 3) := by decide +kernel
theorem dX1_plan_93 : decode cX1_plan 93 = .ok (.ireturn, 1) := by decide +kernel
set_option maxRecDepth 20000 in
theorem ggX1_clear_X0_dropPlaces : GoodIn wsX1_clear wsX0_dropPlaces := goodIn_r _ [8, 9, 22, 23, 24, 25, 26, 27, 28] (by decide +kernel) (by decide +kernel)
set_option maxRecDepth 20000 in
theorem gX1_clear_X0_dropPlaces : GoodIn wsX1_clear (wsV RX1 105 RX0 yX0_dropPlaces wsX0_dropPlaces) := goodIn_app (goodIn_of _ (by decide +kernel)) ggX1_clear_X0_dropPlaces
theorem dX1_clear_0 : decode cX1_clear 0 = .ok (.aload_n 0, 1) := by decide +kernel
theorem dX1_clear_1 : decode cX1_clear 1 = .ok (.getfield 26, 3) := by decide +kernel
theorem dX1_clear_4 : decode cX1_clear 4 = .ok (.istore_n 1, 1) := by decide +kernel
theorem dX1_clear_5 : decode cX1_clear 5 = .ok (.aload_n 0, 1) := by decide +kernel
theorem dX1_clear_6 : decode cX1_clear 6 = .ok (.iconst 0, 1) := by decide +kernel
theorem dX1_clear_7 : decode cX1_clear 7 = .ok (.putfield 26, 3) := by decide +kernel
theorem dX1_clear_10 : decode cX1_clear 10 = .ok (.iconst 0, 1) := by decide +kernel
theorem dX1_clear_11 : decode cX1_clear 11 = .ok (.istore_n 2, 1) := by decide +kernel
theorem dX1_clear_12 : decode cX1_clear 12 = .ok (.iload_n 2, 1) := by decide +kernel
theorem dX1_clear_13 : decode cX1_clear 13 = .ok (.aload_n 0, 1) := by decide +kernel
theorem dX1_clear_14 : decode cX1_clear 14 = .ok (.getfield 15, 3) := by decide +kernel
theorem dX1_clear_17 : decode cX1_clear 17 = .ok (.if_icmp .ge 18, 3) := by decide +kernel
theorem dX1_clear_20 : decode cX1_clear 20 = .ok (.aload_n 0, 1) := by decide +kernel
theorem dX1_clear_21 : decode cX1_clear 21 = .ok (.getfield 11, 3) := by decide +kernel
theorem dX1_clear_24 : decode cX1_clear 24 = .ok (.iload_n 2, 1) := by decide +kernel
theorem dX1_clear_25 : decode cX1_clear 25 = .ok (.aaload, 1) := by decide +kernel
theorem dX1_clear_26 : decode cX1_clear 26 = .ok (.invokevirtual 105, 3) := by decide +kernel
theorem dX1_clear_29 : decode cX1_clear 29 = .ok (.iinc 2 1, 3) := by decide +kernel
theorem dX1_clear_32 : decode cX1_clear 32 = .ok (.goto (-20), 3) := by decide +kernel
theorem dX1_clear_35 : decode cX1_clear 35 = .ok (.iload_n 1, 1) := by decide +kernel
theorem dX1_clear_36 : decode cX1_clear 36 = .ok (.ireturn, 1) := by decide +kernel
set_option maxRecDepth 20000 in
theorem ggX1_placed_X1_isPlace : GoodIn wsX1_placed wsX1_isPlace := goodIn_r _ [6, 7, 8, 9, 10, 11, 12, 13, 14, 15, 16, 17, 18, 19] (by decide +kernel) (by decide +kernel)
set_option maxRecDepth 20000 in
theorem gX1_placed_X1_isPlace : GoodIn wsX1_placed (wsV RX1 108 RX1 yX1_isPlace wsX1_isPlace) := goodIn_app (goodIn_of _ (by decide +kernel)) ggX1_placed_X1_isPlace
theorem dX1_placed_0 : decode cX1_placed 0 = .ok (.aload_n 0, 1) := by decide +kernel
theorem dX1_placed_1 : decode cX1_placed 1 = .ok (.iload_n 1, 1) := by decide +kernel
theorem dX1_placed_2 : decode cX1_placed 2 = .ok (.invokevirtual 108, 3) := by decide +kernel
theorem dX1_placed_5 : decode cX1_placed 5 = .ok (.ifCond .eq 12, 3) := by decide +kernel
theorem dX1_placed_8 : decode cX1_placed 8 = .ok (.aload_n 0, 1) := by decide +kernel
theorem dX1_placed_9 : decode cX1_placed 9 = .ok (.getfield 19, 3) := by decide +kernel
theorem dX1_placed_12 : decode cX1_placed 12 = .ok (.iload_n 1, 1) := by decide +kernel
theorem dX1_placed_13 : decode cX1_placed 13 = .ok (.iaload, 1) := by decide +kernel
theorem dX1_placed_14 : decode cX1_placed 14 = .ok (.goto 4, 3) := by decide +kernel
theorem dX1_placed_17 : decode cX1_placed 17 = .ok (.iconst (-1), 1) := by decide +kernel
theorem dX1_placed_18 : decode cX1_placed 18 = .ok (.ireturn, 1) := by decide +kernel
theorem dX1_lines_0 : decode cX1_lines 0 = .ok (.iload_n 1, 1) := by decide +kernel
theorem dX1_lines_1 : decode cX1_lines 1 = .ok (.bipush 9, 2) := by decide +kernel
theorem dX1_lines_3 : decode cX1_lines 3 = .ok (.if_icmp .lt 9, 3) := by decide +kernel
theorem dX1_lines_6 : decode cX1_lines 6 = .ok (.iload_n 1, 1) := by decide +kernel
theorem dX1_lines_7 : decode cX1_lines 7 = .ok (.bipush 99, 2) := by decide +kernel
theorem dX1_lines_9 : decode cX1_lines 9 = .ok (.if_icmp .le 6, 3) := by decide +kernel
theorem dX1_lines_12 : decode cX1_lines 12 = .ok (.bipush (-2), 2) := by decide +kernel
theorem dX1_lines_14 : decode cX1_lines 14 = .ok (.ireturn, 1) := by decide +kernel
theorem dX1_lines_15 : decode cX1_lines 15 = .ok (.aload_n 0, 1) := by decide +kernel
theorem dX1_lines_16 : decode cX1_lines 16 = .ok (.getfield 29, 3) := by decide +kernel
theorem dX1_lines_19 : decode cX1_lines 19 = .ok (.istore_n 2, 1) := by decide +kernel
theorem dX1_lines_20 : decode cX1_lines 20 = .ok (.aload_n 0, 1) := by decide +kernel
theorem dX1_lines_21 : decode cX1_lines 21 = .ok (.iload_n 1, 1) := by decide +kernel
theorem dX1_lines_22 : decode cX1_lines 22 = .ok (.putfield 29, 3) := by decide +kernel
theorem dX1_lines_25 : decode cX1_lines 25 = .ok (.iload_n 2, 1) := by decide +kernel
theorem dX1_lines_26 : decode cX1_lines 26 = .ok (.ireturn, 1) := by decide +kernel
set_option maxRecDepth 20000 in
theorem ggX1_pages_X1_pageAndLine : GoodIn wsX1_pages wsX1_pageAndLine := goodIn_r _ [6, 7, 8, 9, 10, 11, 12, 13, 14, 15, 16, 17, 18, 19, 20, 21, 22, 23, 24, 25, 26, 27, 28, 29, 30, 31, 32, 33, 34] (by decide +kernel) (by decide +kernel)
set_option maxRecDepth 20000 in
theorem gX1_pages_X1_pageAndLine : GoodIn wsX1_pages (wsV RX1 111 RX1 yX1_pageAndLine wsX1_pageAndLine) := goodIn_app (goodIn_of _ (by decide +kernel)) ggX1_pages_X1_pageAndLine
theorem dX1_pages_0 : decode cX1_pages 0 = .ok (.aload_n 0, 1) := by decide +kernel
theorem dX1_pages_1 : decode cX1_pages 1 = .ok (.getfield 26, 3) := by decide +kernel
theorem dX1_pages_4 : decode cX1_pages 4 = .ok (.ifCond .ne 7, 3) := by decide +kernel
theorem dX1_pages_7 : decode cX1_pages 7 = .ok (.iconst 0, 1) := by decide +kernel
theorem dX1_pages_8 : decode cX1_pages 8 = .ok (.goto 18, 3) := by decide +kernel
theorem dX1_pages_11 : decode cX1_pages 11 = .ok (.aload_n 0, 1) := by decide +kernel
theorem dX1_pages_12 : decode cX1_pages 12 = .ok (.aload_n 0, 1) := by decide +kernel
theorem dX1_pages_13 : decode cX1_pages 13 = .ok (.getfield 26, 3) := by decide +kernel
theorem dX1_pages_16 : decode cX1_pages 16 = .ok (.iconst 1, 1) := by decide +kernel
theorem dX1_pages_17 : decode cX1_pages 17 = .ok (.isub, 1) := by decide +kernel
theorem dX1_pages_18 : decode cX1_pages 18 = .ok (.invokevirtual 111, 3) := by decide +kernel
theorem dX1_pages_21 : decode cX1_pages 21 = .ok (.bipush 100, 2) := by decide +kernel
theorem dX1_pages_23 : decode cX1_pages 23 = .ok (.idiv, 1) := by decide +kernel
theorem dX1_pages_24 : decode cX1_pages 24 = .ok (.iconst 1, 1) := by decide +kernel
theorem dX1_pages_25 : decode cX1_pages 25 = .ok (.iadd, 1) := by decide +kernel
theorem dX1_pages_26 : decode cX1_pages 26 = .ok (.ireturn, 1) := by decide +kernel
set_option maxRecDepth 20000 in
theorem ggX1_page_X1_isPlace : GoodIn wsX1_page wsX1_isPlace := goodIn_r _ [5, 6, 20, 21, 22, 23, 24, 25, 26, 27, 28, 29, 30, 31] (by decide +kernel) (by decide +kernel)
set_option maxRecDepth 20000 in
theorem gX1_page_X1_isPlace : GoodIn wsX1_page (wsV RX1 108 RX1 yX1_isPlace wsX1_isPlace) := goodIn_app (goodIn_of _ (by decide +kernel)) ggX1_page_X1_isPlace
set_option maxRecDepth 20000 in
theorem ggX1_page_X1_pageAndLine : GoodIn wsX1_page wsX1_pageAndLine := goodIn_r _ [10, 11, 12, 13, 14, 15, 16, 17, 18, 19, 20, 21, 22, 23, 24, 25, 26, 27, 28, 29, 30, 31, 32, 33, 34, 35, 36, 37, 38] (by decide +kernel) (by decide +kernel)
set_option maxRecDepth 20000 in
theorem gX1_page_X1_pageAndLine : GoodIn wsX1_page (wsV RX1 111 RX1 yX1_pageAndLine wsX1_pageAndLine) := goodIn_app (goodIn_of _ (by decide +kernel)) ggX1_page_X1_pageAndLine
theorem dX1_page_0 : decode cX1_page 0 = .ok (.aload_n 0, 1) := by decide +kernel
theorem dX1_page_1 : decode cX1_page 1 = .ok (.iload_n 1, 1) := by decide +kernel
theorem dX1_page_2 : decode cX1_page 2 = .ok (.invokevirtual 108, 3) := by decide +kernel
theorem dX1_page_5 : decode cX1_page 5 = .ok (.ifCond .ne 5, 3) := by decide +kernel
theorem dX1_page_8 : decode cX1_page 8 = .ok (.iconst (-1), 1) := by decide +kernel
theorem dX1_page_9 : decode cX1_page 9 = .ok (.ireturn, 1) := by decide +kernel
theorem dX1_page_10 : decode cX1_page 10 = .ok (.aload_n 0, 1) := by decide +kernel
theorem dX1_page_11 : decode cX1_page 11 = .ok (.iload_n 1, 1) := by decide +kernel
theorem dX1_page_12 : decode cX1_page 12 = .ok (.invokevirtual 111, 3) := by decide +kernel
theorem dX1_page_15 : decode cX1_page 15 = .ok (.istore_n 3, 1) := by decide +kernel
theorem dX1_page_16 : decode cX1_page 16 = .ok (.iload_n 2, 1) := by decide +kernel
theorem dX1_page_17 : decode cX1_page 17 = .ok (.ifCond .eq 10, 3) := by decide +kernel
theorem dX1_page_20 : decode cX1_page 20 = .ok (.iload_n 3, 1) := by decide +kernel
theorem dX1_page_21 : decode cX1_page 21 = .ok (.bipush 100, 2) := by decide +kernel
theorem dX1_page_23 : decode cX1_page 23 = .ok (.irem, 1) := by decide +kernel
theorem dX1_page_24 : decode cX1_page 24 = .ok (.goto 7, 3) := by decide +kernel
theorem dX1_page_27 : decode cX1_page 27 = .ok (.iload_n 3, 1) := by decide +kernel
theorem dX1_page_28 : decode cX1_page 28 = .ok (.bipush 100, 2) := by decide +kernel
theorem dX1_page_30 : decode cX1_page 30 = .ok (.idiv, 1) := by decide +kernel
theorem dX1_page_31 : decode cX1_page 31 = .ok (.ireturn, 1) := by decide +kernel
theorem dX1_isPlace_0 : decode cX1_isPlace 0 = .ok (.iload_n 1, 1) := by decide +kernel
theorem dX1_isPlace_1 : decode cX1_isPlace 1 = .ok (.ifCond .lt 15, 3) := by decide +kernel
theorem dX1_isPlace_4 : decode cX1_isPlace 4 = .ok (.iload_n 1, 1) := by decide +kernel
theorem dX1_isPlace_5 : decode cX1_isPlace 5 = .ok (.aload_n 0, 1) := by decide +kernel
theorem dX1_isPlace_6 : decode cX1_isPlace 6 = .ok (.getfield 26, 3) := by decide +kernel
theorem dX1_isPlace_9 : decode cX1_isPlace 9 = .ok (.if_icmp .ge 7, 3) := by decide +kernel
theorem dX1_isPlace_12 : decode cX1_isPlace 12 = .ok (.iconst 1, 1) := by decide +kernel
theorem dX1_isPlace_13 : decode cX1_isPlace 13 = .ok (.goto 4, 3) := by decide +kernel
theorem dX1_isPlace_16 : decode cX1_isPlace 16 = .ok (.iconst 0, 1) := by decide +kernel
theorem dX1_isPlace_17 : decode cX1_isPlace 17 = .ok (.ireturn, 1) := by decide +kernel
set_option maxRecDepth 20000 in
theorem ggX1_pageAndLine_X0_linesTaken : GoodIn wsX1_pageAndLine wsX0_linesTaken := goodIn_r _ [8, 9, 22, 23, 24, 25, 26, 27, 28] (by decide +kernel) (by decide +kernel)
set_option maxRecDepth 20000 in
theorem gX1_pageAndLine_X0_linesTaken : GoodIn wsX1_pageAndLine (wsV RX1 114 RX0 yX0_linesTaken wsX0_linesTaken) := goodIn_app (goodIn_of _ (by decide +kernel)) ggX1_pageAndLine_X0_linesTaken
theorem dX1_pageAndLine_0 : decode cX1_pageAndLine 0 = .ok (.iconst 0, 1) := by decide +kernel
theorem dX1_pageAndLine_1 : decode cX1_pageAndLine 1 = .ok (.istore_n 2, 1) := by decide +kernel
theorem dX1_pageAndLine_2 : decode cX1_pageAndLine 2 = .ok (.iconst 0, 1) := by decide +kernel
theorem dX1_pageAndLine_3 : decode cX1_pageAndLine 3 = .ok (.istore_n 3, 1) := by decide +kernel
theorem dX1_pageAndLine_4 : decode cX1_pageAndLine 4 = .ok (.iconst 0, 1) := by decide +kernel
theorem dX1_pageAndLine_5 : decode cX1_pageAndLine 5 = .ok (.istore 4, 2) := by decide +kernel
theorem dX1_pageAndLine_7 : decode cX1_pageAndLine 7 = .ok (.iconst 0, 1) := by decide +kernel
theorem dX1_pageAndLine_8 : decode cX1_pageAndLine 8 = .ok (.istore 5, 2) := by decide +kernel
theorem dX1_pageAndLine_10 : decode cX1_pageAndLine 10 = .ok (.iload 5, 2) := by decide +kernel
theorem dX1_pageAndLine_12 : decode cX1_pageAndLine 12 = .ok (.iload_n 1, 1) := by decide +kernel
theorem dX1_pageAndLine_13 : decode cX1_pageAndLine 13 = .ok (.if_icmp .gt 54, 3) := by decide +kernel
theorem dX1_pageAndLine_16 : decode cX1_pageAndLine 16 = .ok (.aload_n 0, 1) := by decide +kernel
theorem dX1_pageAndLine_17 : decode cX1_pageAndLine 17 = .ok (.getfield 11, 3) := by decide +kernel
theorem dX1_pageAndLine_20 : decode cX1_pageAndLine 20 = .ok (.aload_n 0, 1) := by decide +kernel
theorem dX1_pageAndLine_21 : decode cX1_pageAndLine 21 = .ok (.getfield 19, 3) := by decide +kernel
theorem dX1_pageAndLine_24 : decode cX1_pageAndLine 24 = .ok (.iload 5, 2) := by decide +kernel
theorem dX1_pageAndLine_26 : decode cX1_pageAndLine 26 = .ok (.iaload, 1) := by decide +kernel
theorem dX1_pageAndLine_27 : decode cX1_pageAndLine 27 = .ok (.aaload, 1) := by decide +kernel
theorem dX1_pageAndLine_28 : decode cX1_pageAndLine 28 = .ok (.invokevirtual 114, 3) := by decide +kernel
theorem dX1_pageAndLine_31 : decode cX1_pageAndLine 31 = .ok (.istore 6, 2) := by decide +kernel
theorem dX1_pageAndLine_33 : decode cX1_pageAndLine 33 = .ok (.iload 4, 2) := by decide +kernel
theorem dX1_pageAndLine_35 : decode cX1_pageAndLine 35 = .ok (.iload 6, 2) := by decide +kernel
theorem dX1_pageAndLine_37 : decode cX1_pageAndLine 37 = .ok (.iadd, 1) := by decide +kernel
theorem dX1_pageAndLine_38 : decode cX1_pageAndLine 38 = .ok (.aload_n 0, 1) := by decide +kernel
theorem dX1_pageAndLine_39 : decode cX1_pageAndLine 39 = .ok (.getfield 29, 3) := by decide +kernel
theorem dX1_pageAndLine_42 : decode cX1_pageAndLine 42 = .ok (.if_icmp .le 9, 3) := by decide +kernel
theorem dX1_pageAndLine_45 : decode cX1_pageAndLine 45 = .ok (.iinc 2 1, 3) := by decide +kernel
theorem dX1_pageAndLine_48 : decode cX1_pageAndLine 48 = .ok (.iconst 0, 1) := by decide +kernel
theorem dX1_pageAndLine_49 : decode cX1_pageAndLine 49 = .ok (.istore 4, 2) := by decide +kernel
theorem dX1_pageAndLine_51 : decode cX1_pageAndLine 51 = .ok (.iload 4, 2) := by decide +kernel
theorem dX1_pageAndLine_53 : decode cX1_pageAndLine 53 = .ok (.istore_n 3, 1) := by decide +kernel
theorem dX1_pageAndLine_54 : decode cX1_pageAndLine 54 = .ok (.iload 4, 2) := by decide +kernel
theorem dX1_pageAndLine_56 : decode cX1_pageAndLine 56 = .ok (.iload 6, 2) := by decide +kernel
theorem dX1_pageAndLine_58 : decode cX1_pageAndLine 58 = .ok (.iadd, 1) := by decide +kernel
theorem dX1_pageAndLine_59 : decode cX1_pageAndLine 59 = .ok (.istore 4, 2) := by decide +kernel
theorem dX1_pageAndLine_61 : decode cX1_pageAndLine 61 = .ok (.iinc 5 1, 3) := by decide +kernel
theorem dX1_pageAndLine_64 : decode cX1_pageAndLine 64 = .ok (.goto (-54), 3) := by decide +kernel
theorem dX1_pageAndLine_67 : decode cX1_pageAndLine 67 = .ok (.iload_n 2, 1) := by decide +kernel
theorem dX1_pageAndLine_68 : decode cX1_pageAndLine 68 = .ok (.bipush 100, 2) := by decide +kernel
theorem dX1_pageAndLine_70 : decode cX1_pageAndLine 70 = .ok (.imul, 1) := by decide +kernel
theorem dX1_pageAndLine_71 : decode cX1_pageAndLine 71 = .ok (.iload_n 3, 1) := by decide +kernel
theorem dX1_pageAndLine_72 : decode cX1_pageAndLine 72 = .ok (.iadd, 1) := by decide +kernel
theorem dX1_pageAndLine_73 : decode cX1_pageAndLine 73 = .ok (.ireturn, 1) := by decide +kernel
set_option maxRecDepth 20000 in
theorem ggX1_sheet_X1_placeRefusal : GoodIn wsX1_sheet wsX1_placeRefusal := goodIn_r _ [5, 6, 7, 8, 4, 9, 10, 11, 12, 13, 14, 15, 16, 17, 18, 19, 20, 21, 22, 23, 24, 25, 26, 27, 28, 29, 41, 42, 43, 44, 45, 46, 47, 48, 49, 50, 51, 52, 53, 54, 55, 56, 57, 58, 59] (by decide +kernel) (by decide +kernel)
set_option maxRecDepth 20000 in
theorem gX1_sheet_X1_placeRefusal : GoodIn wsX1_sheet (wsV RX1 117 RX1 yX1_placeRefusal wsX1_placeRefusal) := goodIn_app (goodIn_of _ (by decide +kernel)) ggX1_sheet_X1_placeRefusal
set_option maxRecDepth 20000 in
theorem ggX1_sheet_X1_variantOn : GoodIn wsX1_sheet wsX1_variantOn := goodIn_r _ [33, 22, 23, 34, 35, 36, 37, 27, 38, 29, 39, 40, 41, 42, 43, 44, 45, 46, 47, 48, 49, 50, 51, 52, 53, 54, 55, 56, 57, 58, 59] (by decide +kernel) (by decide +kernel)
set_option maxRecDepth 20000 in
theorem gX1_sheet_X1_variantOn : GoodIn wsX1_sheet (wsV RX1 120 RX1 yX1_variantOn wsX1_variantOn) := goodIn_app (goodIn_of _ (by decide +kernel)) ggX1_sheet_X1_variantOn
theorem dX1_sheet_0 : decode cX1_sheet 0 = .ok (.aload_n 0, 1) := by decide +kernel
theorem dX1_sheet_1 : decode cX1_sheet 1 = .ok (.iload_n 1, 1) := by decide +kernel
theorem dX1_sheet_2 : decode cX1_sheet 2 = .ok (.iload_n 2, 1) := by decide +kernel
theorem dX1_sheet_3 : decode cX1_sheet 3 = .ok (.invokevirtual 117, 3) := by decide +kernel
theorem dX1_sheet_6 : decode cX1_sheet 6 = .ok (.istore_n 3, 1) := by decide +kernel
theorem dX1_sheet_7 : decode cX1_sheet 7 = .ok (.iload_n 3, 1) := by decide +kernel
theorem dX1_sheet_8 : decode cX1_sheet 8 = .ok (.ifCond .ne 12, 3) := by decide +kernel
theorem dX1_sheet_11 : decode cX1_sheet 11 = .ok (.aload_n 0, 1) := by decide +kernel
theorem dX1_sheet_12 : decode cX1_sheet 12 = .ok (.iload_n 1, 1) := by decide +kernel
theorem dX1_sheet_13 : decode cX1_sheet 13 = .ok (.iload_n 2, 1) := by decide +kernel
theorem dX1_sheet_14 : decode cX1_sheet 14 = .ok (.invokevirtual 120, 3) := by decide +kernel
theorem dX1_sheet_17 : decode cX1_sheet 17 = .ok (.goto 4, 3) := by decide +kernel
theorem dX1_sheet_20 : decode cX1_sheet 20 = .ok (.iload_n 3, 1) := by decide +kernel
theorem dX1_sheet_21 : decode cX1_sheet 21 = .ok (.ireturn, 1) := by decide +kernel
set_option maxRecDepth 20000 in
theorem ggX1_answer_X1_placeRefusal : GoodIn wsX1_answer wsX1_placeRefusal := goodIn_r _ [5, 6, 7, 8, 4, 9, 10, 11, 12, 13, 14, 15, 16, 17, 18, 19, 20, 21, 22, 23, 24, 25, 26, 27, 28, 29, 70, 71, 72, 73, 74, 75, 76, 77, 78, 79, 80, 81, 82, 83, 84, 85, 86, 87, 88] (by decide +kernel) (by decide +kernel)
set_option maxRecDepth 20000 in
theorem gX1_answer_X1_placeRefusal : GoodIn wsX1_answer (wsV RX1 117 RX1 yX1_placeRefusal wsX1_placeRefusal) := goodIn_app (goodIn_of _ (by decide +kernel)) ggX1_answer_X1_placeRefusal
set_option maxRecDepth 20000 in
theorem ggX1_answer_X1_answerOn : GoodIn wsX1_answer wsX1_answerOn := goodIn_r _ [33, 22, 23, 34, 35, 36, 4, 37, 38, 39, 40, 41, 27, 42, 29, 43, 44, 45, 46, 47, 48, 49, 50, 51, 52, 53, 54, 55, 56, 57, 58, 59, 60, 61, 62, 63, 64, 65, 66, 67, 68, 69, 70, 71, 72, 73, 74, 75, 76, 77, 78, 79, 80, 81, 82, 83, 84, 85, 86, 87, 88] (by decide +kernel) (by decide +kernel)
set_option maxRecDepth 20000 in
theorem gX1_answer_X1_answerOn : GoodIn wsX1_answer (wsV RX1 123 RX1 yX1_answerOn wsX1_answerOn) := goodIn_app (goodIn_of _ (by decide +kernel)) ggX1_answer_X1_answerOn
theorem dX1_answer_0 : decode cX1_answer 0 = .ok (.aload_n 0, 1) := by decide +kernel
theorem dX1_answer_1 : decode cX1_answer 1 = .ok (.iload_n 1, 1) := by decide +kernel
theorem dX1_answer_2 : decode cX1_answer 2 = .ok (.iload_n 2, 1) := by decide +kernel
theorem dX1_answer_3 : decode cX1_answer 3 = .ok (.invokevirtual 117, 3) := by decide +kernel
theorem dX1_answer_6 : decode cX1_answer 6 = .ok (.istore_n 3, 1) := by decide +kernel
theorem dX1_answer_7 : decode cX1_answer 7 = .ok (.iload_n 3, 1) := by decide +kernel
theorem dX1_answer_8 : decode cX1_answer 8 = .ok (.ifCond .ne 12, 3) := by decide +kernel
theorem dX1_answer_11 : decode cX1_answer 11 = .ok (.aload_n 0, 1) := by decide +kernel
theorem dX1_answer_12 : decode cX1_answer 12 = .ok (.iload_n 1, 1) := by decide +kernel
theorem dX1_answer_13 : decode cX1_answer 13 = .ok (.iload_n 2, 1) := by decide +kernel
theorem dX1_answer_14 : decode cX1_answer 14 = .ok (.invokevirtual 123, 3) := by decide +kernel
theorem dX1_answer_17 : decode cX1_answer 17 = .ok (.goto 4, 3) := by decide +kernel
theorem dX1_answer_20 : decode cX1_answer 20 = .ok (.iload_n 3, 1) := by decide +kernel
theorem dX1_answer_21 : decode cX1_answer 21 = .ok (.ireturn, 1) := by decide +kernel
set_option maxRecDepth 20000 in
theorem ggX1_code_X1_sheetRefusal : GoodIn wsX1_code wsX1_sheetRefusal := goodIn_r _ [6, 7, 8, 5, 9, 10, 11, 12, 13, 1, 14, 15, 16, 17, 18, 19, 20, 21, 62, 63, 64, 65, 66, 67, 68, 69, 70, 71, 72, 73, 74, 75, 76, 77, 78, 79, 80] (by decide +kernel) (by decide +kernel)
set_option maxRecDepth 20000 in
theorem gX1_code_X1_sheetRefusal : GoodIn wsX1_code (wsV RX1 126 RX1 yX1_sheetRefusal wsX1_sheetRefusal) := goodIn_app (goodIn_of _ (by decide +kernel)) ggX1_code_X1_sheetRefusal
set_option maxRecDepth 20000 in
theorem ggX1_code_X1_answerOn : GoodIn wsX1_code wsX1_answerOn := goodIn_r _ [25, 14, 15, 26, 27, 28, 5, 29, 30, 31, 32, 33, 19, 34, 21, 35, 36, 37, 38, 39, 40, 41, 42, 43, 44, 45, 46, 47, 48, 49, 50, 51, 52, 53, 54, 55, 56, 57, 58, 59, 60, 61, 62, 63, 64, 65, 66, 67, 68, 69, 70, 71, 72, 73, 74, 75, 76, 77, 78, 79, 80] (by decide +kernel) (by decide +kernel)
set_option maxRecDepth 20000 in
theorem gX1_code_X1_answerOn : GoodIn wsX1_code (wsV RX1 123 RX1 yX1_answerOn wsX1_answerOn) := goodIn_app (goodIn_of _ (by decide +kernel)) ggX1_code_X1_answerOn
theorem dX1_code_0 : decode cX1_code 0 = .ok (.aload_n 0, 1) := by decide +kernel
theorem dX1_code_1 : decode cX1_code 1 = .ok (.iload_n 1, 1) := by decide +kernel
theorem dX1_code_2 : decode cX1_code 2 = .ok (.invokevirtual 126, 3) := by decide +kernel
theorem dX1_code_5 : decode cX1_code 5 = .ok (.istore_n 2, 1) := by decide +kernel
theorem dX1_code_6 : decode cX1_code 6 = .ok (.iload_n 2, 1) := by decide +kernel
theorem dX1_code_7 : decode cX1_code 7 = .ok (.ifCond .eq 5, 3) := by decide +kernel
theorem dX1_code_10 : decode cX1_code 10 = .ok (.iload_n 2, 1) := by decide +kernel
theorem dX1_code_11 : decode cX1_code 11 = .ok (.ireturn, 1) := by decide +kernel
theorem dX1_code_12 : decode cX1_code 12 = .ok (.iconst 0, 1) := by decide +kernel
theorem dX1_code_13 : decode cX1_code 13 = .ok (.istore_n 3, 1) := by decide +kernel
theorem dX1_code_14 : decode cX1_code 14 = .ok (.iconst 0, 1) := by decide +kernel
theorem dX1_code_15 : decode cX1_code 15 = .ok (.istore 4, 2) := by decide +kernel
theorem dX1_code_17 : decode cX1_code 17 = .ok (.iload 4, 2) := by decide +kernel
theorem dX1_code_19 : decode cX1_code 19 = .ok (.aload_n 0, 1) := by decide +kernel
theorem dX1_code_20 : decode cX1_code 20 = .ok (.getfield 26, 3) := by decide +kernel
theorem dX1_code_23 : decode cX1_code 23 = .ok (.if_icmp .ge 24, 3) := by decide +kernel
theorem dX1_code_26 : decode cX1_code 26 = .ok (.iload_n 3, 1) := by decide +kernel
theorem dX1_code_27 : decode cX1_code 27 = .ok (.aload_n 0, 1) := by decide +kernel
theorem dX1_code_28 : decode cX1_code 28 = .ok (.iload_n 1, 1) := by decide +kernel
theorem dX1_code_29 : decode cX1_code 29 = .ok (.iload 4, 2) := by decide +kernel
theorem dX1_code_31 : decode cX1_code 31 = .ok (.invokevirtual 123, 3) := by decide +kernel
theorem dX1_code_34 : decode cX1_code 34 = .ok (.iload 4, 2) := by decide +kernel
theorem dX1_code_36 : decode cX1_code 36 = .ok (.iconst 1, 1) := by decide +kernel
theorem dX1_code_37 : decode cX1_code 37 = .ok (.iadd, 1) := by decide +kernel
theorem dX1_code_38 : decode cX1_code 38 = .ok (.imul, 1) := by decide +kernel
theorem dX1_code_39 : decode cX1_code 39 = .ok (.iadd, 1) := by decide +kernel
theorem dX1_code_40 : decode cX1_code 40 = .ok (.istore_n 3, 1) := by decide +kernel
theorem dX1_code_41 : decode cX1_code 41 = .ok (.iinc 4 1, 3) := by decide +kernel
theorem dX1_code_44 : decode cX1_code 44 = .ok (.goto (-27), 3) := by decide +kernel
theorem dX1_code_47 : decode cX1_code 47 = .ok (.iload_n 3, 1) := by decide +kernel
theorem dX1_code_48 : decode cX1_code 48 = .ok (.bipush 97, 2) := by decide +kernel
theorem dX1_code_50 : decode cX1_code 50 = .ok (.irem, 1) := by decide +kernel
theorem dX1_code_51 : decode cX1_code 51 = .ok (.ireturn, 1) := by decide +kernel
set_option maxRecDepth 20000 in
theorem ggX1_shared_X1_isSheet : GoodIn wsX1_shared wsX1_isSheet := goodIn_r _ [6] (by decide +kernel) (by decide +kernel)
set_option maxRecDepth 20000 in
theorem gX1_shared_X1_isSheet : GoodIn wsX1_shared (va_wsS RX1 129 yX1_isSheet wsX1_isSheet) := goodIn_app (goodIn_of _ (by decide +kernel)) ggX1_shared_X1_isSheet
set_option maxRecDepth 20000 in
theorem ggX1_shared_X1_lacksVariants : GoodIn wsX1_shared wsX1_lacksVariants := goodIn_r _ [10, 11, 2, 12, 13, 14, 15, 16, 17, 18, 28, 29, 30, 31, 32, 33, 34, 35, 36, 37, 38, 39, 40, 41, 42, 43, 44, 45, 46] (by decide +kernel) (by decide +kernel)
set_option maxRecDepth 20000 in
theorem gX1_shared_X1_lacksVariants : GoodIn wsX1_shared (wsV RX1 132 RX1 yX1_lacksVariants wsX1_lacksVariants) := goodIn_app (goodIn_of _ (by decide +kernel)) ggX1_shared_X1_lacksVariants
set_option maxRecDepth 20000 in
theorem ggX1_shared_X0_placesInCommon : GoodIn wsX1_shared wsX0_placesInCommon := goodIn_r _ [22, 18, 23, 24, 25, 26, 27, 40, 41, 42, 43, 44, 45, 46] (by decide +kernel) (by decide +kernel)
set_option maxRecDepth 20000 in
theorem gX1_shared_X0_placesInCommon : GoodIn wsX1_shared (wsV RX1 136 RX0 yX0_placesInCommon wsX0_placesInCommon) := goodIn_app (goodIn_of _ (by decide +kernel)) ggX1_shared_X0_placesInCommon
theorem dX1_shared_0 : decode cX1_shared 0 = .ok (.iload_n 1, 1) := by decide +kernel
theorem dX1_shared_1 : decode cX1_shared 1 = .ok (.invokestatic 129, 3) := by decide +kernel
theorem dX1_shared_4 : decode cX1_shared 4 = .ok (.ifCond .eq 10, 3) := by decide +kernel
theorem dX1_shared_7 : decode cX1_shared 7 = .ok (.iload_n 2, 1) := by decide +kernel
theorem dX1_shared_8 : decode cX1_shared 8 = .ok (.invokestatic 129, 3) := by decide +kernel
theorem dX1_shared_11 : decode cX1_shared 11 = .ok (.ifCond .ne 6, 3) := by decide +kernel
theorem dX1_shared_14 : decode cX1_shared 14 = .ok (.bipush (-2), 2) := by decide +kernel
theorem dX1_shared_16 : decode cX1_shared 16 = .ok (.ireturn, 1) := by decide +kernel
theorem dX1_shared_17 : decode cX1_shared 17 = .ok (.aload_n 0, 1) := by decide +kernel
theorem dX1_shared_18 : decode cX1_shared 18 = .ok (.invokevirtual 132, 3) := by decide +kernel
theorem dX1_shared_21 : decode cX1_shared 21 = .ok (.ifCond .eq 6, 3) := by decide +kernel
theorem dX1_shared_24 : decode cX1_shared 24 = .ok (.bipush (-3), 2) := by decide +kernel
theorem dX1_shared_26 : decode cX1_shared 26 = .ok (.ireturn, 1) := by decide +kernel
theorem dX1_shared_27 : decode cX1_shared 27 = .ok (.iconst 0, 1) := by decide +kernel
theorem dX1_shared_28 : decode cX1_shared 28 = .ok (.istore_n 3, 1) := by decide +kernel
theorem dX1_shared_29 : decode cX1_shared 29 = .ok (.iconst 0, 1) := by decide +kernel
theorem dX1_shared_30 : decode cX1_shared 30 = .ok (.istore 4, 2) := by decide +kernel
theorem dX1_shared_32 : decode cX1_shared 32 = .ok (.iload 4, 2) := by decide +kernel
theorem dX1_shared_34 : decode cX1_shared 34 = .ok (.aload_n 0, 1) := by decide +kernel
theorem dX1_shared_35 : decode cX1_shared 35 = .ok (.getfield 15, 3) := by decide +kernel
theorem dX1_shared_38 : decode cX1_shared 38 = .ok (.if_icmp .ge 24, 3) := by decide +kernel
theorem dX1_shared_41 : decode cX1_shared 41 = .ok (.iload_n 3, 1) := by decide +kernel
theorem dX1_shared_42 : decode cX1_shared 42 = .ok (.aload_n 0, 1) := by decide +kernel
theorem dX1_shared_43 : decode cX1_shared 43 = .ok (.getfield 11, 3) := by decide +kernel
theorem dX1_shared_46 : decode cX1_shared 46 = .ok (.iload 4, 2) := by decide +kernel
theorem dX1_shared_48 : decode cX1_shared 48 = .ok (.aaload, 1) := by decide +kernel
theorem dX1_shared_49 : decode cX1_shared 49 = .ok (.iload_n 1, 1) := by decide +kernel
theorem dX1_shared_50 : decode cX1_shared 50 = .ok (.iload_n 2, 1) := by decide +kernel
theorem dX1_shared_51 : decode cX1_shared 51 = .ok (.invokevirtual 136, 3) := by decide +kernel
theorem dX1_shared_54 : decode cX1_shared 54 = .ok (.iadd, 1) := by decide +kernel
theorem dX1_shared_55 : decode cX1_shared 55 = .ok (.istore_n 3, 1) := by decide +kernel
theorem dX1_shared_56 : decode cX1_shared 56 = .ok (.iinc 4 1, 3) := by decide +kernel
theorem dX1_shared_59 : decode cX1_shared 59 = .ok (.goto (-27), 3) := by decide +kernel
theorem dX1_shared_62 : decode cX1_shared 62 = .ok (.iload_n 3, 1) := by decide +kernel
theorem dX1_shared_63 : decode cX1_shared 63 = .ok (.ireturn, 1) := by decide +kernel
set_option maxRecDepth 20000 in
theorem ggX1_apart_X1_sheetRefusal : GoodIn wsX1_apart wsX1_sheetRefusal := goodIn_r _ [7, 8, 9, 6, 10, 11, 12, 13, 14, 15, 2, 16, 17, 18, 19, 20, 21, 22, 28, 29, 30, 31, 32, 33, 34, 35, 36, 37, 38, 39, 40, 41, 42, 43, 44, 45, 46] (by decide +kernel) (by decide +kernel)
set_option maxRecDepth 20000 in
theorem gX1_apart_X1_sheetRefusal : GoodIn wsX1_apart (wsV RX1 126 RX1 yX1_sheetRefusal wsX1_sheetRefusal) := goodIn_app (goodIn_of _ (by decide +kernel)) ggX1_apart_X1_sheetRefusal
set_option maxRecDepth 20000 in
theorem ggX1_apart_X0_hasEnoughForTwo : GoodIn wsX1_apart wsX0_hasEnoughForTwo := goodIn_r _ [26, 22, 27, 40, 41, 42, 43, 44, 45, 46] (by decide +kernel) (by decide +kernel)
set_option maxRecDepth 20000 in
theorem gX1_apart_X0_hasEnoughForTwo : GoodIn wsX1_apart (wsV RX1 139 RX0 yX0_hasEnoughForTwo wsX0_hasEnoughForTwo) := goodIn_app (goodIn_of _ (by decide +kernel)) ggX1_apart_X0_hasEnoughForTwo
theorem dX1_apart_0 : decode cX1_apart 0 = .ok (.aload_n 0, 1) := by decide +kernel
theorem dX1_apart_1 : decode cX1_apart 1 = .ok (.iload_n 1, 1) := by decide +kernel
theorem dX1_apart_2 : decode cX1_apart 2 = .ok (.invokevirtual 126, 3) := by decide +kernel
theorem dX1_apart_5 : decode cX1_apart 5 = .ok (.istore_n 2, 1) := by decide +kernel
theorem dX1_apart_6 : decode cX1_apart 6 = .ok (.iload_n 2, 1) := by decide +kernel
theorem dX1_apart_7 : decode cX1_apart 7 = .ok (.ifCond .eq 5, 3) := by decide +kernel
theorem dX1_apart_10 : decode cX1_apart 10 = .ok (.iload_n 2, 1) := by decide +kernel
theorem dX1_apart_11 : decode cX1_apart 11 = .ok (.ireturn, 1) := by decide +kernel
theorem dX1_apart_12 : decode cX1_apart 12 = .ok (.iconst 0, 1) := by decide +kernel
theorem dX1_apart_13 : decode cX1_apart 13 = .ok (.istore_n 3, 1) := by decide +kernel
theorem dX1_apart_14 : decode cX1_apart 14 = .ok (.iload_n 3, 1) := by decide +kernel
theorem dX1_apart_15 : decode cX1_apart 15 = .ok (.aload_n 0, 1) := by decide +kernel
theorem dX1_apart_16 : decode cX1_apart 16 = .ok (.getfield 15, 3) := by decide +kernel
theorem dX1_apart_19 : decode cX1_apart 19 = .ok (.if_icmp .ge 24, 3) := by decide +kernel
theorem dX1_apart_22 : decode cX1_apart 22 = .ok (.aload_n 0, 1) := by decide +kernel
theorem dX1_apart_23 : decode cX1_apart 23 = .ok (.getfield 11, 3) := by decide +kernel
theorem dX1_apart_26 : decode cX1_apart 26 = .ok (.iload_n 3, 1) := by decide +kernel
theorem dX1_apart_27 : decode cX1_apart 27 = .ok (.aaload, 1) := by decide +kernel
theorem dX1_apart_28 : decode cX1_apart 28 = .ok (.invokevirtual 139, 3) := by decide +kernel
theorem dX1_apart_31 : decode cX1_apart 31 = .ok (.ifCond .ne 6, 3) := by decide +kernel
theorem dX1_apart_34 : decode cX1_apart 34 = .ok (.bipush (-9), 2) := by decide +kernel
theorem dX1_apart_36 : decode cX1_apart 36 = .ok (.ireturn, 1) := by decide +kernel
theorem dX1_apart_37 : decode cX1_apart 37 = .ok (.iinc 3 1, 3) := by decide +kernel
theorem dX1_apart_40 : decode cX1_apart 40 = .ok (.goto (-26), 3) := by decide +kernel
theorem dX1_apart_43 : decode cX1_apart 43 = .ok (.iload_n 1, 1) := by decide +kernel
theorem dX1_apart_44 : decode cX1_apart 44 = .ok (.sipush 9999, 3) := by decide +kernel
theorem dX1_apart_47 : decode cX1_apart 47 = .ok (.if_icmp .ge 9, 3) := by decide +kernel
theorem dX1_apart_50 : decode cX1_apart 50 = .ok (.iload_n 1, 1) := by decide +kernel
theorem dX1_apart_51 : decode cX1_apart 51 = .ok (.iconst 1, 1) := by decide +kernel
theorem dX1_apart_52 : decode cX1_apart 52 = .ok (.iadd, 1) := by decide +kernel
theorem dX1_apart_53 : decode cX1_apart 53 = .ok (.goto 5, 3) := by decide +kernel
theorem dX1_apart_56 : decode cX1_apart 56 = .ok (.bipush (-9), 2) := by decide +kernel
theorem dX1_apart_58 : decode cX1_apart 58 = .ok (.ireturn, 1) := by decide +kernel
theorem dX1_isSheet_0 : decode cX1_isSheet 0 = .ok (.iload_n 0, 1) := by decide +kernel
theorem dX1_isSheet_1 : decode cX1_isSheet 1 = .ok (.ifCond .lt 14, 3) := by decide +kernel
theorem dX1_isSheet_4 : decode cX1_isSheet 4 = .ok (.iload_n 0, 1) := by decide +kernel
theorem dX1_isSheet_5 : decode cX1_isSheet 5 = .ok (.sipush 9999, 3) := by decide +kernel
theorem dX1_isSheet_8 : decode cX1_isSheet 8 = .ok (.if_icmp .gt 7, 3) := by decide +kernel
theorem dX1_isSheet_11 : decode cX1_isSheet 11 = .ok (.iconst 1, 1) := by decide +kernel
theorem dX1_isSheet_12 : decode cX1_isSheet 12 = .ok (.goto 4, 3) := by decide +kernel
theorem dX1_isSheet_15 : decode cX1_isSheet 15 = .ok (.iconst 0, 1) := by decide +kernel
theorem dX1_isSheet_16 : decode cX1_isSheet 16 = .ok (.ireturn, 1) := by decide +kernel
set_option maxRecDepth 20000 in
theorem ggX1_lacksVariants_X0_size : GoodIn wsX1_lacksVariants wsX0_size := goodIn_r _ [8, 9, 22, 23, 24, 25, 26, 27, 28] (by decide +kernel) (by decide +kernel)
set_option maxRecDepth 20000 in
theorem gX1_lacksVariants_X0_size : GoodIn wsX1_lacksVariants (wsV RX1 67 RX0 yX0_size wsX0_size) := goodIn_app (goodIn_of _ (by decide +kernel)) ggX1_lacksVariants_X0_size
theorem dX1_lacksVariants_0 : decode cX1_lacksVariants 0 = .ok (.iconst 0, 1) := by decide +kernel
theorem dX1_lacksVariants_1 : decode cX1_lacksVariants 1 = .ok (.istore_n 1, 1) := by decide +kernel
theorem dX1_lacksVariants_2 : decode cX1_lacksVariants 2 = .ok (.iload_n 1, 1) := by decide +kernel
theorem dX1_lacksVariants_3 : decode cX1_lacksVariants 3 = .ok (.aload_n 0, 1) := by decide +kernel
theorem dX1_lacksVariants_4 : decode cX1_lacksVariants 4 = .ok (.getfield 26, 3) := by decide +kernel
theorem dX1_lacksVariants_7 : decode cX1_lacksVariants 7 = .ok (.if_icmp .ge 28, 3) := by decide +kernel
theorem dX1_lacksVariants_10 : decode cX1_lacksVariants 10 = .ok (.aload_n 0, 1) := by decide +kernel
theorem dX1_lacksVariants_11 : decode cX1_lacksVariants 11 = .ok (.getfield 11, 3) := by decide +kernel
theorem dX1_lacksVariants_14 : decode cX1_lacksVariants 14 = .ok (.aload_n 0, 1) := by decide +kernel
theorem dX1_lacksVariants_15 : decode cX1_lacksVariants 15 = .ok (.getfield 19, 3) := by decide +kernel
theorem dX1_lacksVariants_18 : decode cX1_lacksVariants 18 = .ok (.iload_n 1, 1) := by decide +kernel
theorem dX1_lacksVariants_19 : decode cX1_lacksVariants 19 = .ok (.iaload, 1) := by decide +kernel
theorem dX1_lacksVariants_20 : decode cX1_lacksVariants 20 = .ok (.aaload, 1) := by decide +kernel
theorem dX1_lacksVariants_21 : decode cX1_lacksVariants 21 = .ok (.invokevirtual 67, 3) := by decide +kernel
theorem dX1_lacksVariants_24 : decode cX1_lacksVariants 24 = .ok (.ifCond .ne 5, 3) := by decide +kernel
theorem dX1_lacksVariants_27 : decode cX1_lacksVariants 27 = .ok (.iconst 1, 1) := by decide +kernel
theorem dX1_lacksVariants_28 : decode cX1_lacksVariants 28 = .ok (.ireturn, 1) := by decide +kernel
theorem dX1_lacksVariants_29 : decode cX1_lacksVariants 29 = .ok (.iinc 1 1, 3) := by decide +kernel
theorem dX1_lacksVariants_32 : decode cX1_lacksVariants 32 = .ok (.goto (-30), 3) := by decide +kernel
theorem dX1_lacksVariants_35 : decode cX1_lacksVariants 35 = .ok (.iconst 0, 1) := by decide +kernel
theorem dX1_lacksVariants_36 : decode cX1_lacksVariants 36 = .ok (.ireturn, 1) := by decide +kernel
set_option maxRecDepth 20000 in
theorem ggX1_sheetRefusal_X1_isSheet : GoodIn wsX1_sheetRefusal wsX1_isSheet := goodIn_r _ [4] (by decide +kernel) (by decide +kernel)
set_option maxRecDepth 20000 in
theorem gX1_sheetRefusal_X1_isSheet : GoodIn wsX1_sheetRefusal (va_wsS RX1 129 yX1_isSheet wsX1_isSheet) := goodIn_app (goodIn_of _ (by decide +kernel)) ggX1_sheetRefusal_X1_isSheet
set_option maxRecDepth 20000 in
theorem ggX1_sheetRefusal_X1_lacksVariants : GoodIn wsX1_sheetRefusal wsX1_lacksVariants := goodIn_r _ [8, 9, 10, 11, 12, 13, 14, 15, 16, 17, 18, 19, 20, 21, 22, 23, 24, 25, 26, 27, 28, 29, 30, 31, 32, 33, 34, 35, 36] (by decide +kernel) (by decide +kernel)
set_option maxRecDepth 20000 in
theorem gX1_sheetRefusal_X1_lacksVariants : GoodIn wsX1_sheetRefusal (wsV RX1 132 RX1 yX1_lacksVariants wsX1_lacksVariants) := goodIn_app (goodIn_of _ (by decide +kernel)) ggX1_sheetRefusal_X1_lacksVariants
theorem dX1_sheetRefusal_0 : decode cX1_sheetRefusal 0 = .ok (.iload_n 1, 1) := by decide +kernel
theorem dX1_sheetRefusal_1 : decode cX1_sheetRefusal 1 = .ok (.invokestatic 129, 3) := by decide +kernel
theorem dX1_sheetRefusal_4 : decode cX1_sheetRefusal 4 = .ok (.ifCond .ne 6, 3) := by decide +kernel
theorem dX1_sheetRefusal_7 : decode cX1_sheetRefusal 7 = .ok (.bipush (-2), 2) := by decide +kernel
theorem dX1_sheetRefusal_9 : decode cX1_sheetRefusal 9 = .ok (.ireturn, 1) := by decide +kernel
theorem dX1_sheetRefusal_10 : decode cX1_sheetRefusal 10 = .ok (.aload_n 0, 1) := by decide +kernel
theorem dX1_sheetRefusal_11 : decode cX1_sheetRefusal 11 = .ok (.invokevirtual 132, 3) := by decide +kernel
theorem dX1_sheetRefusal_14 : decode cX1_sheetRefusal 14 = .ok (.ifCond .eq 8, 3) := by decide +kernel
theorem dX1_sheetRefusal_17 : decode cX1_sheetRefusal 17 = .ok (.bipush (-3), 2) := by decide +kernel
theorem dX1_sheetRefusal_19 : decode cX1_sheetRefusal 19 = .ok (.goto 4, 3) := by decide +kernel
theorem dX1_sheetRefusal_22 : decode cX1_sheetRefusal 22 = .ok (.iconst 0, 1) := by decide +kernel
theorem dX1_sheetRefusal_23 : decode cX1_sheetRefusal 23 = .ok (.ireturn, 1) := by decide +kernel
set_option maxRecDepth 20000 in
theorem ggX1_placeRefusal_X1_isPlace : GoodIn wsX1_placeRefusal wsX1_isPlace := goodIn_r _ [5, 6, 26, 27, 28, 29, 30, 31, 32, 33, 34, 35, 36, 37] (by decide +kernel) (by decide +kernel)
set_option maxRecDepth 20000 in
theorem gX1_placeRefusal_X1_isPlace : GoodIn wsX1_placeRefusal (wsV RX1 108 RX1 yX1_isPlace wsX1_isPlace) := goodIn_app (goodIn_of _ (by decide +kernel)) ggX1_placeRefusal_X1_isPlace
set_option maxRecDepth 20000 in
theorem ggX1_placeRefusal_X1_sheetRefusal : GoodIn wsX1_placeRefusal wsX1_sheetRefusal := goodIn_r _ [10, 11, 12, 4, 13, 14, 15, 16, 17, 6, 18, 19, 20, 21, 22, 23, 24, 25, 26, 27, 28, 29, 30, 31, 32, 33, 34, 35, 36, 37, 38, 39, 40, 41, 42, 43, 44] (by decide +kernel) (by decide +kernel)
set_option maxRecDepth 20000 in
theorem gX1_placeRefusal_X1_sheetRefusal : GoodIn wsX1_placeRefusal (wsV RX1 126 RX1 yX1_sheetRefusal wsX1_sheetRefusal) := goodIn_app (goodIn_of _ (by decide +kernel)) ggX1_placeRefusal_X1_sheetRefusal
theorem dX1_placeRefusal_0 : decode cX1_placeRefusal 0 = .ok (.aload_n 0, 1) := by decide +kernel
theorem dX1_placeRefusal_1 : decode cX1_placeRefusal 1 = .ok (.iload_n 2, 1) := by decide +kernel
theorem dX1_placeRefusal_2 : decode cX1_placeRefusal 2 = .ok (.invokevirtual 108, 3) := by decide +kernel
theorem dX1_placeRefusal_5 : decode cX1_placeRefusal 5 = .ok (.ifCond .eq 11, 3) := by decide +kernel
theorem dX1_placeRefusal_8 : decode cX1_placeRefusal 8 = .ok (.aload_n 0, 1) := by decide +kernel
theorem dX1_placeRefusal_9 : decode cX1_placeRefusal 9 = .ok (.iload_n 1, 1) := by decide +kernel
theorem dX1_placeRefusal_10 : decode cX1_placeRefusal 10 = .ok (.invokevirtual 126, 3) := by decide +kernel
theorem dX1_placeRefusal_13 : decode cX1_placeRefusal 13 = .ok (.goto 4, 3) := by decide +kernel
theorem dX1_placeRefusal_16 : decode cX1_placeRefusal 16 = .ok (.iconst (-1), 1) := by decide +kernel
theorem dX1_placeRefusal_17 : decode cX1_placeRefusal 17 = .ok (.ireturn, 1) := by decide +kernel
set_option maxRecDepth 20000 in
theorem ggX1_variantOn_X0_variantFor : GoodIn wsX1_variantOn wsX0_variantFor := goodIn_r _ [8, 9, 10, 11, 24, 25, 26, 27, 28, 29, 30] (by decide +kernel) (by decide +kernel)
set_option maxRecDepth 20000 in
theorem gX1_variantOn_X0_variantFor : GoodIn wsX1_variantOn (wsV RX1 142 RX0 yX0_variantFor wsX0_variantFor) := goodIn_app (goodIn_of _ (by decide +kernel)) ggX1_variantOn_X0_variantFor
theorem dX1_variantOn_0 : decode cX1_variantOn 0 = .ok (.aload_n 0, 1) := by decide +kernel
theorem dX1_variantOn_1 : decode cX1_variantOn 1 = .ok (.getfield 11, 3) := by decide +kernel
theorem dX1_variantOn_4 : decode cX1_variantOn 4 = .ok (.aload_n 0, 1) := by decide +kernel
theorem dX1_variantOn_5 : decode cX1_variantOn 5 = .ok (.getfield 19, 3) := by decide +kernel
theorem dX1_variantOn_8 : decode cX1_variantOn 8 = .ok (.iload_n 2, 1) := by decide +kernel
theorem dX1_variantOn_9 : decode cX1_variantOn 9 = .ok (.iaload, 1) := by decide +kernel
theorem dX1_variantOn_10 : decode cX1_variantOn 10 = .ok (.aaload, 1) := by decide +kernel
theorem dX1_variantOn_11 : decode cX1_variantOn 11 = .ok (.iload_n 1, 1) := by decide +kernel
theorem dX1_variantOn_12 : decode cX1_variantOn 12 = .ok (.aload_n 0, 1) := by decide +kernel
theorem dX1_variantOn_13 : decode cX1_variantOn 13 = .ok (.getfield 23, 3) := by decide +kernel
theorem dX1_variantOn_16 : decode cX1_variantOn 16 = .ok (.iload_n 2, 1) := by decide +kernel
theorem dX1_variantOn_17 : decode cX1_variantOn 17 = .ok (.iaload, 1) := by decide +kernel
theorem dX1_variantOn_18 : decode cX1_variantOn 18 = .ok (.invokevirtual 142, 3) := by decide +kernel
theorem dX1_variantOn_21 : decode cX1_variantOn 21 = .ok (.ireturn, 1) := by decide +kernel
set_option maxRecDepth 20000 in
theorem ggX1_answerOn_X1_variantOn : GoodIn wsX1_answerOn wsX1_variantOn := goodIn_r _ [7, 1, 2, 8, 9, 10, 11, 12, 13, 14, 15, 16, 42, 43, 44, 45, 46, 47, 48, 49, 50, 51, 52, 53, 54, 55, 56, 57, 58, 59, 60] (by decide +kernel) (by decide +kernel)
set_option maxRecDepth 20000 in
theorem gX1_answerOn_X1_variantOn : GoodIn wsX1_answerOn (wsV RX1 120 RX1 yX1_variantOn wsX1_variantOn) := goodIn_app (goodIn_of _ (by decide +kernel)) ggX1_answerOn_X1_variantOn
set_option maxRecDepth 20000 in
theorem ggX1_answerOn_X0_pairAt : GoodIn wsX1_answerOn wsX0_pairAt := goodIn_r _ [20, 21, 22, 23, 24, 25, 26, 12, 27, 16, 28, 29, 30, 31, 32, 33, 34, 35, 36, 37, 38, 39, 40, 54, 55, 56, 57, 58, 59, 60] (by decide +kernel) (by decide +kernel)
set_option maxRecDepth 20000 in
theorem gX1_answerOn_X0_pairAt : GoodIn wsX1_answerOn (wsV RX1 82 RX0 yX0_pairAt wsX0_pairAt) := goodIn_app (goodIn_of _ (by decide +kernel)) ggX1_answerOn_X0_pairAt
set_option maxRecDepth 20000 in
theorem ggX1_answerOn_X0_result : GoodIn wsX1_answerOn wsX0_result := goodIn_r _ [31, 32, 54, 55, 56, 57, 58, 59, 60] (by decide +kernel) (by decide +kernel)
set_option maxRecDepth 20000 in
theorem gX1_answerOn_X0_result : GoodIn wsX1_answerOn (wsV RX1 86 RX0 yX0_result wsX0_result) := goodIn_app (goodIn_of _ (by decide +kernel)) ggX1_answerOn_X0_result
theorem dX1_answerOn_0 : decode cX1_answerOn 0 = .ok (.aload_n 0, 1) := by decide +kernel
theorem dX1_answerOn_1 : decode cX1_answerOn 1 = .ok (.getfield 11, 3) := by decide +kernel
theorem dX1_answerOn_4 : decode cX1_answerOn 4 = .ok (.aload_n 0, 1) := by decide +kernel
theorem dX1_answerOn_5 : decode cX1_answerOn 5 = .ok (.getfield 19, 3) := by decide +kernel
theorem dX1_answerOn_8 : decode cX1_answerOn 8 = .ok (.iload_n 2, 1) := by decide +kernel
theorem dX1_answerOn_9 : decode cX1_answerOn 9 = .ok (.iaload, 1) := by decide +kernel
theorem dX1_answerOn_10 : decode cX1_answerOn 10 = .ok (.aaload, 1) := by decide +kernel
theorem dX1_answerOn_11 : decode cX1_answerOn 11 = .ok (.astore_n 3, 1) := by decide +kernel
theorem dX1_answerOn_12 : decode cX1_answerOn 12 = .ok (.aload_n 3, 1) := by decide +kernel
theorem dX1_answerOn_13 : decode cX1_answerOn 13 = .ok (.aload_n 0, 1) := by decide +kernel
theorem dX1_answerOn_14 : decode cX1_answerOn 14 = .ok (.iload_n 1, 1) := by decide +kernel
theorem dX1_answerOn_15 : decode cX1_answerOn 15 = .ok (.iload_n 2, 1) := by decide +kernel
theorem dX1_answerOn_16 : decode cX1_answerOn 16 = .ok (.invokevirtual 120, 3) := by decide +kernel
theorem dX1_answerOn_19 : decode cX1_answerOn 19 = .ok (.invokevirtual 82, 3) := by decide +kernel
theorem dX1_answerOn_22 : decode cX1_answerOn 22 = .ok (.istore 4, 2) := by decide +kernel
theorem dX1_answerOn_24 : decode cX1_answerOn 24 = .ok (.aload_n 3, 1) := by decide +kernel
theorem dX1_answerOn_25 : decode cX1_answerOn 25 = .ok (.iload 4, 2) := by decide +kernel
theorem dX1_answerOn_27 : decode cX1_answerOn 27 = .ok (.bipush 100, 2) := by decide +kernel
theorem dX1_answerOn_29 : decode cX1_answerOn 29 = .ok (.idiv, 1) := by decide +kernel
theorem dX1_answerOn_30 : decode cX1_answerOn 30 = .ok (.iload 4, 2) := by decide +kernel
theorem dX1_answerOn_32 : decode cX1_answerOn 32 = .ok (.bipush 100, 2) := by decide +kernel
theorem dX1_answerOn_34 : decode cX1_answerOn 34 = .ok (.irem, 1) := by decide +kernel
theorem dX1_answerOn_35 : decode cX1_answerOn 35 = .ok (.invokevirtual 86, 3) := by decide +kernel
theorem dX1_answerOn_38 : decode cX1_answerOn 38 = .ok (.ireturn, 1) := by decide +kernel
theorem dX1_seats_0 : decode cX1_seats 0 = .ok (.iload_n 1, 1) := by decide +kernel
theorem dX1_seats_1 : decode cX1_seats 1 = .ok (.iconst 1, 1) := by decide +kernel
theorem dX1_seats_2 : decode cX1_seats 2 = .ok (.if_icmp .lt 20, 3) := by decide +kernel
theorem dX1_seats_5 : decode cX1_seats 5 = .ok (.iload_n 1, 1) := by decide +kernel
theorem dX1_seats_6 : decode cX1_seats 6 = .ok (.bipush 8, 2) := by decide +kernel
theorem dX1_seats_8 : decode cX1_seats 8 = .ok (.if_icmp .gt 14, 3) := by decide +kernel
theorem dX1_seats_11 : decode cX1_seats 11 = .ok (.iload_n 2, 1) := by decide +kernel
theorem dX1_seats_12 : decode cX1_seats 12 = .ok (.iconst 1, 1) := by decide +kernel
theorem dX1_seats_13 : decode cX1_seats 13 = .ok (.if_icmp .lt 9, 3) := by decide +kernel
theorem dX1_seats_16 : decode cX1_seats 16 = .ok (.iload_n 2, 1) := by decide +kernel
theorem dX1_seats_17 : decode cX1_seats 17 = .ok (.bipush 8, 2) := by decide +kernel
theorem dX1_seats_19 : decode cX1_seats 19 = .ok (.if_icmp .le 6, 3) := by decide +kernel
theorem dX1_seats_22 : decode cX1_seats 22 = .ok (.bipush (-2), 2) := by decide +kernel
theorem dX1_seats_24 : decode cX1_seats 24 = .ok (.ireturn, 1) := by decide +kernel
theorem dX1_seats_25 : decode cX1_seats 25 = .ok (.aload_n 0, 1) := by decide +kernel
theorem dX1_seats_26 : decode cX1_seats 26 = .ok (.getfield 32, 3) := by decide +kernel
theorem dX1_seats_29 : decode cX1_seats 29 = .ok (.aload_n 0, 1) := by decide +kernel
theorem dX1_seats_30 : decode cX1_seats 30 = .ok (.getfield 35, 3) := by decide +kernel
theorem dX1_seats_33 : decode cX1_seats 33 = .ok (.imul, 1) := by decide +kernel
theorem dX1_seats_34 : decode cX1_seats 34 = .ok (.istore_n 3, 1) := by decide +kernel
theorem dX1_seats_35 : decode cX1_seats 35 = .ok (.aload_n 0, 1) := by decide +kernel
theorem dX1_seats_36 : decode cX1_seats 36 = .ok (.iload_n 1, 1) := by decide +kernel
theorem dX1_seats_37 : decode cX1_seats 37 = .ok (.putfield 32, 3) := by decide +kernel
theorem dX1_seats_40 : decode cX1_seats 40 = .ok (.aload_n 0, 1) := by decide +kernel
theorem dX1_seats_41 : decode cX1_seats 41 = .ok (.iload_n 2, 1) := by decide +kernel
theorem dX1_seats_42 : decode cX1_seats 42 = .ok (.putfield 35, 3) := by decide +kernel
theorem dX1_seats_45 : decode cX1_seats 45 = .ok (.iconst 0, 1) := by decide +kernel
theorem dX1_seats_46 : decode cX1_seats 46 = .ok (.istore 4, 2) := by decide +kernel
theorem dX1_seats_48 : decode cX1_seats 48 = .ok (.iload 4, 2) := by decide +kernel
theorem dX1_seats_50 : decode cX1_seats 50 = .ok (.aload_n 0, 1) := by decide +kernel
theorem dX1_seats_51 : decode cX1_seats 51 = .ok (.getfield 41, 3) := by decide +kernel
theorem dX1_seats_54 : decode cX1_seats 54 = .ok (.arraylength, 1) := by decide +kernel
theorem dX1_seats_55 : decode cX1_seats 55 = .ok (.if_icmp .ge 17, 3) := by decide +kernel
theorem dX1_seats_58 : decode cX1_seats 58 = .ok (.aload_n 0, 1) := by decide +kernel
theorem dX1_seats_59 : decode cX1_seats 59 = .ok (.getfield 41, 3) := by decide +kernel
theorem dX1_seats_62 : decode cX1_seats 62 = .ok (.iload 4, 2) := by decide +kernel
theorem dX1_seats_64 : decode cX1_seats 64 = .ok (.iconst 0, 1) := by decide +kernel
theorem dX1_seats_65 : decode cX1_seats 65 = .ok (.iastore, 1) := by decide +kernel
theorem dX1_seats_66 : decode cX1_seats 66 = .ok (.iinc 4 1, 3) := by decide +kernel
theorem dX1_seats_69 : decode cX1_seats 69 = .ok (.goto (-21), 3) := by decide +kernel
theorem dX1_seats_72 : decode cX1_seats 72 = .ok (.iload_n 3, 1) := by decide +kernel
theorem dX1_seats_73 : decode cX1_seats 73 = .ok (.ireturn, 1) := by decide +kernel
theorem dX1_base_0 : decode cX1_base 0 = .ok (.iload_n 1, 1) := by decide +kernel
theorem dX1_base_1 : decode cX1_base 1 = .ok (.ifCond .lt 10, 3) := by decide +kernel
theorem dX1_base_4 : decode cX1_base 4 = .ok (.iload_n 1, 1) := by decide +kernel
theorem dX1_base_5 : decode cX1_base 5 = .ok (.sipush 9000, 3) := by decide +kernel
theorem dX1_base_8 : decode cX1_base 8 = .ok (.if_icmp .le 6, 3) := by decide +kernel
theorem dX1_base_11 : decode cX1_base 11 = .ok (.bipush (-2), 2) := by decide +kernel
theorem dX1_base_13 : decode cX1_base 13 = .ok (.ireturn, 1) := by decide +kernel
theorem dX1_base_14 : decode cX1_base 14 = .ok (.aload_n 0, 1) := by decide +kernel
theorem dX1_base_15 : decode cX1_base 15 = .ok (.getfield 38, 3) := by decide +kernel
theorem dX1_base_18 : decode cX1_base 18 = .ok (.istore_n 2, 1) := by decide +kernel
theorem dX1_base_19 : decode cX1_base 19 = .ok (.aload_n 0, 1) := by decide +kernel
theorem dX1_base_20 : decode cX1_base 20 = .ok (.iload_n 1, 1) := by decide +kernel
theorem dX1_base_21 : decode cX1_base 21 = .ok (.putfield 38, 3) := by decide +kernel
theorem dX1_base_24 : decode cX1_base 24 = .ok (.iload_n 2, 1) := by decide +kernel
theorem dX1_base_25 : decode cX1_base 25 = .ok (.ireturn, 1) := by decide +kernel
set_option maxRecDepth 20000 in
theorem ggX1_seat_X1_isSeat : GoodIn wsX1_seat wsX1_isSeat := goodIn_r _ [5, 6, 7, 17, 18, 19, 20, 21, 22, 23, 24, 25, 26, 27, 28] (by decide +kernel) (by decide +kernel)
set_option maxRecDepth 20000 in
theorem gX1_seat_X1_isSeat : GoodIn wsX1_seat (wsV RX1 145 RX1 yX1_isSeat wsX1_isSeat) := goodIn_app (goodIn_of _ (by decide +kernel)) ggX1_seat_X1_isSeat
set_option maxRecDepth 20000 in
theorem ggX1_seat_X1_sheetAt : GoodIn wsX1_seat wsX1_sheetAt := goodIn_r _ [11, 12, 7, 13, 14, 15, 16, 17, 18, 19, 20, 21, 22, 23, 24, 25, 26, 27, 28] (by decide +kernel) (by decide +kernel)
set_option maxRecDepth 20000 in
theorem gX1_seat_X1_sheetAt : GoodIn wsX1_seat (wsV RX1 148 RX1 yX1_sheetAt wsX1_sheetAt) := goodIn_app (goodIn_of _ (by decide +kernel)) ggX1_seat_X1_sheetAt
theorem dX1_seat_0 : decode cX1_seat 0 = .ok (.aload_n 0, 1) := by decide +kernel
theorem dX1_seat_1 : decode cX1_seat 1 = .ok (.iload_n 1, 1) := by decide +kernel
theorem dX1_seat_2 : decode cX1_seat 2 = .ok (.invokevirtual 145, 3) := by decide +kernel
theorem dX1_seat_5 : decode cX1_seat 5 = .ok (.ifCond .eq 11, 3) := by decide +kernel
theorem dX1_seat_8 : decode cX1_seat 8 = .ok (.aload_n 0, 1) := by decide +kernel
theorem dX1_seat_9 : decode cX1_seat 9 = .ok (.iload_n 1, 1) := by decide +kernel
theorem dX1_seat_10 : decode cX1_seat 10 = .ok (.invokevirtual 148, 3) := by decide +kernel
theorem dX1_seat_13 : decode cX1_seat 13 = .ok (.goto 4, 3) := by decide +kernel
theorem dX1_seat_16 : decode cX1_seat 16 = .ok (.iconst (-1), 1) := by decide +kernel
theorem dX1_seat_17 : decode cX1_seat 17 = .ok (.ireturn, 1) := by decide +kernel
theorem dX1_unlike_0 : decode cX1_unlike 0 = .ok (.aload_n 0, 1) := by decide +kernel
theorem dX1_unlike_1 : decode cX1_unlike 1 = .ok (.getfield 32, 3) := by decide +kernel
theorem dX1_unlike_4 : decode cX1_unlike 4 = .ok (.iconst 2, 1) := by decide +kernel
theorem dX1_unlike_5 : decode cX1_unlike 5 = .ok (.invokestatic 151, 3) := by decide +kernel
theorem dX1_unlike_8 : decode cX1_unlike 8 = .ok (.aload_n 0, 1) := by decide +kernel
theorem dX1_unlike_9 : decode cX1_unlike 9 = .ok (.getfield 35, 3) := by decide +kernel
theorem dX1_unlike_12 : decode cX1_unlike 12 = .ok (.iconst 2, 1) := by decide +kernel
theorem dX1_unlike_13 : decode cX1_unlike 13 = .ok (.invokestatic 151, 3) := by decide +kernel
theorem dX1_unlike_16 : decode cX1_unlike 16 = .ok (.imul, 1) := by decide +kernel
theorem dX1_unlike_17 : decode cX1_unlike 17 = .ok (.ireturn, 1) := by decide +kernel
set_option maxRecDepth 20000 in
theorem ggX1_mark_X1_isSeat : GoodIn wsX1_mark wsX1_isSeat := goodIn_r _ [10, 11, 12, 94, 95, 96, 97, 98, 99, 100, 101, 102, 103, 104, 105] (by decide +kernel) (by decide +kernel)
set_option maxRecDepth 20000 in
theorem gX1_mark_X1_isSeat : GoodIn wsX1_mark (wsV RX1 145 RX1 yX1_isSeat wsX1_isSeat) := goodIn_app (goodIn_of _ (by decide +kernel)) ggX1_mark_X1_isSeat
set_option maxRecDepth 20000 in
theorem ggX1_mark_X1_isPlace : GoodIn wsX1_mark wsX1_isPlace := goodIn_r _ [16, 17, 94, 95, 96, 97, 98, 99, 100, 101, 102, 103, 104, 105] (by decide +kernel) (by decide +kernel)
set_option maxRecDepth 20000 in
theorem gX1_mark_X1_isPlace : GoodIn wsX1_mark (wsV RX1 108 RX1 yX1_isPlace wsX1_isPlace) := goodIn_app (goodIn_of _ (by decide +kernel)) ggX1_mark_X1_isPlace
set_option maxRecDepth 20000 in
theorem ggX1_mark_X1_lacksVariants : GoodIn wsX1_mark wsX1_lacksVariants := goodIn_r _ [21, 17, 2, 1, 22, 23, 24, 25, 26, 27, 94, 95, 96, 97, 98, 99, 100, 101, 102, 103, 104, 105, 106, 107, 108, 109, 110, 111, 112] (by decide +kernel) (by decide +kernel)
set_option maxRecDepth 20000 in
theorem gX1_mark_X1_lacksVariants : GoodIn wsX1_mark (wsV RX1 132 RX1 yX1_lacksVariants wsX1_lacksVariants) := goodIn_app (goodIn_of _ (by decide +kernel)) ggX1_mark_X1_lacksVariants
set_option maxRecDepth 20000 in
theorem ggX1_mark_X1_sheetAt : GoodIn wsX1_mark wsX1_sheetAt := goodIn_r _ [31, 32, 12, 33, 34, 35, 36, 94, 95, 96, 97, 98, 99, 100, 101, 102, 103, 104, 105] (by decide +kernel) (by decide +kernel)
set_option maxRecDepth 20000 in
theorem gX1_mark_X1_sheetAt : GoodIn wsX1_mark (wsV RX1 148 RX1 yX1_sheetAt wsX1_sheetAt) := goodIn_app (goodIn_of _ (by decide +kernel)) ggX1_mark_X1_sheetAt
set_option maxRecDepth 20000 in
theorem ggX1_mark_X1_variantOn : GoodIn wsX1_mark wsX1_variantOn := goodIn_r _ [40, 2, 1, 41, 42, 43, 44, 25, 45, 27, 46, 47, 94, 95, 96, 97, 98, 99, 100, 101, 102, 103, 104, 105, 106, 107, 108, 109, 110, 111, 112] (by decide +kernel) (by decide +kernel)
set_option maxRecDepth 20000 in
theorem gX1_mark_X1_variantOn : GoodIn wsX1_mark (wsV RX1 120 RX1 yX1_variantOn wsX1_variantOn) := goodIn_app (goodIn_of _ (by decide +kernel)) ggX1_mark_X1_variantOn
set_option maxRecDepth 20000 in
theorem ggX1_mark_X0_slipBehind : GoodIn wsX1_mark wsX0_slipBehind := goodIn_r _ [51, 52, 53, 54, 25, 55, 56, 57, 58, 59, 60, 61, 62, 47, 63, 64, 65, 66, 67, 68, 69, 70, 71, 72, 73, 74, 75, 76, 77, 78, 79, 80, 81, 82, 83, 84, 85, 35, 86, 87, 88, 89, 106, 107, 108, 109, 110, 111, 112] (by decide +kernel) (by decide +kernel)
set_option maxRecDepth 20000 in
theorem gX1_mark_X0_slipBehind : GoodIn wsX1_mark (wsV RX1 99 RX0 yX0_slipBehind wsX0_slipBehind) := goodIn_app (goodIn_of _ (by decide +kernel)) ggX1_mark_X0_slipBehind
set_option maxRecDepth 20000 in
theorem ggX1_mark_X1_missesFrom : GoodIn wsX1_mark wsX1_missesFrom := goodIn_r _ [93] (by decide +kernel) (by decide +kernel)
set_option maxRecDepth 20000 in
theorem gX1_mark_X1_missesFrom : GoodIn wsX1_mark (wsV RX1 156 RX1 yX1_missesFrom wsX1_missesFrom) := goodIn_app (goodIn_of _ (by decide +kernel)) ggX1_mark_X1_missesFrom
theorem dX1_mark_0 : decode cX1_mark 0 = .ok (.aload_n 0, 1) := by decide +kernel
theorem dX1_mark_1 : decode cX1_mark 1 = .ok (.iload_n 1, 1) := by decide +kernel
theorem dX1_mark_2 : decode cX1_mark 2 = .ok (.invokevirtual 145, 3) := by decide +kernel
theorem dX1_mark_5 : decode cX1_mark 5 = .ok (.ifCond .eq 11, 3) := by decide +kernel
theorem dX1_mark_8 : decode cX1_mark 8 = .ok (.aload_n 0, 1) := by decide +kernel
theorem dX1_mark_9 : decode cX1_mark 9 = .ok (.iload_n 2, 1) := by decide +kernel
theorem dX1_mark_10 : decode cX1_mark 10 = .ok (.invokevirtual 108, 3) := by decide +kernel
theorem dX1_mark_13 : decode cX1_mark 13 = .ok (.ifCond .ne 5, 3) := by decide +kernel
theorem dX1_mark_16 : decode cX1_mark 16 = .ok (.iconst (-1), 1) := by decide +kernel
theorem dX1_mark_17 : decode cX1_mark 17 = .ok (.ireturn, 1) := by decide +kernel
theorem dX1_mark_18 : decode cX1_mark 18 = .ok (.aload_n 0, 1) := by decide +kernel
theorem dX1_mark_19 : decode cX1_mark 19 = .ok (.invokevirtual 132, 3) := by decide +kernel
theorem dX1_mark_22 : decode cX1_mark 22 = .ok (.ifCond .eq 6, 3) := by decide +kernel
theorem dX1_mark_25 : decode cX1_mark 25 = .ok (.bipush (-3), 2) := by decide +kernel
theorem dX1_mark_27 : decode cX1_mark 27 = .ok (.ireturn, 1) := by decide +kernel
theorem dX1_mark_28 : decode cX1_mark 28 = .ok (.aload_n 0, 1) := by decide +kernel
theorem dX1_mark_29 : decode cX1_mark 29 = .ok (.getfield 19, 3) := by decide +kernel
theorem dX1_mark_32 : decode cX1_mark 32 = .ok (.iload_n 2, 1) := by decide +kernel
theorem dX1_mark_33 : decode cX1_mark 33 = .ok (.iaload, 1) := by decide +kernel
theorem dX1_mark_34 : decode cX1_mark 34 = .ok (.istore 4, 2) := by decide +kernel
theorem dX1_mark_36 : decode cX1_mark 36 = .ok (.aload_n 0, 1) := by decide +kernel
theorem dX1_mark_37 : decode cX1_mark 37 = .ok (.getfield 11, 3) := by decide +kernel
theorem dX1_mark_40 : decode cX1_mark 40 = .ok (.iload 4, 2) := by decide +kernel
theorem dX1_mark_42 : decode cX1_mark 42 = .ok (.aaload, 1) := by decide +kernel
theorem dX1_mark_43 : decode cX1_mark 43 = .ok (.aload_n 0, 1) := by decide +kernel
theorem dX1_mark_44 : decode cX1_mark 44 = .ok (.aload_n 0, 1) := by decide +kernel
theorem dX1_mark_45 : decode cX1_mark 45 = .ok (.iload_n 1, 1) := by decide +kernel
theorem dX1_mark_46 : decode cX1_mark 46 = .ok (.invokevirtual 148, 3) := by decide +kernel
theorem dX1_mark_49 : decode cX1_mark 49 = .ok (.iload_n 2, 1) := by decide +kernel
theorem dX1_mark_50 : decode cX1_mark 50 = .ok (.invokevirtual 120, 3) := by decide +kernel
theorem dX1_mark_53 : decode cX1_mark 53 = .ok (.iload_n 3, 1) := by decide +kernel
theorem dX1_mark_54 : decode cX1_mark 54 = .ok (.invokevirtual 99, 3) := by decide +kernel
theorem dX1_mark_57 : decode cX1_mark 57 = .ok (.istore 5, 2) := by decide +kernel
theorem dX1_mark_59 : decode cX1_mark 59 = .ok (.iload 5, 2) := by decide +kernel
theorem dX1_mark_61 : decode cX1_mark 61 = .ok (.ifCond .ne 16, 3) := by decide +kernel
theorem dX1_mark_64 : decode cX1_mark 64 = .ok (.aload_n 0, 1) := by decide +kernel
theorem dX1_mark_65 : decode cX1_mark 65 = .ok (.dup, 1) := by decide +kernel
theorem dX1_mark_66 : decode cX1_mark 66 = .ok (.getfield 44, 3) := by decide +kernel
theorem dX1_mark_69 : decode cX1_mark 69 = .ok (.iconst 1, 1) := by decide +kernel
theorem dX1_mark_70 : decode cX1_mark 70 = .ok (.iadd, 1) := by decide +kernel
theorem dX1_mark_71 : decode cX1_mark 71 = .ok (.putfield 44, 3) := by decide +kernel
theorem dX1_mark_74 : decode cX1_mark 74 = .ok (.goto 30, 3) := by decide +kernel
theorem dX1_mark_77 : decode cX1_mark 77 = .ok (.aload_n 0, 1) := by decide +kernel
theorem dX1_mark_78 : decode cX1_mark 78 = .ok (.dup, 1) := by decide +kernel
theorem dX1_mark_79 : decode cX1_mark 79 = .ok (.getfield 47, 3) := by decide +kernel
theorem dX1_mark_82 : decode cX1_mark 82 = .ok (.iconst 1, 1) := by decide +kernel
theorem dX1_mark_83 : decode cX1_mark 83 = .ok (.iadd, 1) := by decide +kernel
theorem dX1_mark_84 : decode cX1_mark 84 = .ok (.putfield 47, 3) := by decide +kernel
theorem dX1_mark_87 : decode cX1_mark 87 = .ok (.aload_n 0, 1) := by decide +kernel
theorem dX1_mark_88 : decode cX1_mark 88 = .ok (.getfield 41, 3) := by decide +kernel
theorem dX1_mark_91 : decode cX1_mark 91 = .ok (.aload_n 0, 1) := by decide +kernel
theorem dX1_mark_92 : decode cX1_mark 92 = .ok (.iload_n 1, 1) := by decide +kernel
theorem dX1_mark_93 : decode cX1_mark 93 = .ok (.invokevirtual 156, 3) := by decide +kernel
theorem dX1_mark_96 : decode cX1_mark 96 = .ok (.iload 4, 2) := by decide +kernel
theorem dX1_mark_98 : decode cX1_mark 98 = .ok (.iadd, 1) := by decide +kernel
theorem dX1_mark_99 : decode cX1_mark 99 = .ok (.dup2, 1) := by decide +kernel
