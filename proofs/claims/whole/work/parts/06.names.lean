theorem dX2_kind_96 : decode cX2_kind 96 = .ok (.aload_n 0, 1) := by decide +kernel
theorem dX2_kind_97 : decode cX2_kind 97 = .ok (.dup, 1) := by decide +kernel
theorem dX2_kind_98 : decode cX2_kind 98 = .ok (.getfield 62, 3) := by decide +kernel
theorem dX2_kind_101 : decode cX2_kind 101 = .ok (.iconst 1, 1) := by decide +kernel
theorem dX2_kind_102 : decode cX2_kind 102 = .ok (.iadd, 1) := by decide +kernel
theorem dX2_kind_103 : decode cX2_kind 103 = .ok (.putfield 62, 3) := by decide +kernel
theorem dX2_kind_106 : decode cX2_kind 106 = .ok (.aload_n 0, 1) := by decide +kernel
theorem dX2_kind_107 : decode cX2_kind 107 = .ok (.getfield 62, 3) := by decide +kernel
theorem dX2_kind_110 : decode cX2_kind 110 = .ok (.iconst 1, 1) := by decide +kernel
theorem dX2_kind_111 : decode cX2_kind 111 = .ok (.isub, 1) := by decide +kernel
theorem dX2_kind_112 : decode cX2_kind 112 = .ok (.ireturn, 1) := by decide +kernel
set_option maxRecDepth 20000 in
theorem ggX2_range_X2_noKind : GoodIn wsX2_range wsX2_noKind := goodIn_r _ [10, 11, 12, 13, 9, 14, 38, 39, 40, 41, 42, 43, 44, 45, 46, 47, 48, 49, 50, 51, 52, 53, 54, 55, 56, 57, 58] (by decide +kernel) (by decide +kernel)
set_option maxRecDepth 20000 in
theorem gX2_range_X2_noKind : GoodIn wsX2_range (wsV RX2 91 RX2 yX2_noKind wsX2_noKind) := goodIn_app (goodIn_of _ (by decide +kernel)) ggX2_range_X2_noKind
set_option maxRecDepth 20000 in
theorem ggX2_range_X2_in : GoodIn wsX2_range wsX2_in := goodIn_r _ [14] (by decide +kernel) (by decide +kernel)
set_option maxRecDepth 20000 in
theorem gX2_range_X2_in : GoodIn wsX2_range (va_wsS RX2 65 yX2_in wsX2_in) := goodIn_app (goodIn_of _ (by decide +kernel)) ggX2_range_X2_in
set_option maxRecDepth 20000 in
theorem ggX2_range_X2_tell : GoodIn wsX2_range wsX2_tell := goodIn_r _ [18, 5, 3, 4, 19, 20, 21, 22, 23, 9, 24, 25, 26, 27, 28, 29, 12, 13, 14, 30, 31, 32, 33, 34, 35, 36, 37, 38, 39, 40, 41, 42, 43, 44, 45, 46, 47, 48, 49, 50, 51, 52, 53, 54, 55, 56, 57, 58] (by decide +kernel) (by decide +kernel)
set_option maxRecDepth 20000 in
theorem gX2_range_X2_tell : GoodIn wsX2_range (wsV RX2 95 RX2 yX2_tell wsX2_tell) := goodIn_app (goodIn_of _ (by decide +kernel)) ggX2_range_X2_tell
theorem dX2_range_0 : decode cX2_range 0 = .ok (.aload_n 0, 1) := by decide +kernel
theorem dX2_range_1 : decode cX2_range 1 = .ok (.iconst 0, 1) := by decide +kernel
theorem dX2_range_2 : decode cX2_range 2 = .ok (.putfield 59, 3) := by decide +kernel
theorem dX2_range_5 : decode cX2_range 5 = .ok (.aload_n 0, 1) := by decide +kernel
theorem dX2_range_6 : decode cX2_range 6 = .ok (.iload_n 1, 1) := by decide +kernel
theorem dX2_range_7 : decode cX2_range 7 = .ok (.invokevirtual 91, 3) := by decide +kernel
theorem dX2_range_10 : decode cX2_range 10 = .ok (.ifCond .eq 5, 3) := by decide +kernel
theorem dX2_range_13 : decode cX2_range 13 = .ok (.iconst (-1), 1) := by decide +kernel
theorem dX2_range_14 : decode cX2_range 14 = .ok (.ireturn, 1) := by decide +kernel
theorem dX2_range_15 : decode cX2_range 15 = .ok (.iload_n 2, 1) := by decide +kernel
theorem dX2_range_16 : decode cX2_range 16 = .ok (.i2l, 1) := by decide +kernel
theorem dX2_range_17 : decode cX2_range 17 = .ok (.lconst 0, 1) := by decide +kernel
theorem dX2_range_18 : decode cX2_range 18 = .ok (.ldc2_w 101, 3) := by decide +kernel
theorem dX2_range_21 : decode cX2_range 21 = .ok (.invokestatic 65, 3) := by decide +kernel
theorem dX2_range_24 : decode cX2_range 24 = .ok (.ifCond .eq 33, 3) := by decide +kernel
theorem dX2_range_27 : decode cX2_range 27 = .ok (.iload_n 3, 1) := by decide +kernel
theorem dX2_range_28 : decode cX2_range 28 = .ok (.i2l, 1) := by decide +kernel
theorem dX2_range_29 : decode cX2_range 29 = .ok (.lconst 0, 1) := by decide +kernel
theorem dX2_range_30 : decode cX2_range 30 = .ok (.iload 4, 2) := by decide +kernel
theorem dX2_range_32 : decode cX2_range 32 = .ok (.i2l, 1) := by decide +kernel
theorem dX2_range_33 : decode cX2_range 33 = .ok (.invokestatic 65, 3) := by decide +kernel
theorem dX2_range_36 : decode cX2_range 36 = .ok (.ifCond .eq 21, 3) := by decide +kernel
theorem dX2_range_39 : decode cX2_range 39 = .ok (.iload 4, 2) := by decide +kernel
theorem dX2_range_41 : decode cX2_range 41 = .ok (.iload_n 2, 1) := by decide +kernel
theorem dX2_range_42 : decode cX2_range 42 = .ok (.iconst 2, 1) := by decide +kernel
theorem dX2_range_43 : decode cX2_range 43 = .ok (.if_icmp .ne 9, 3) := by decide +kernel
theorem dX2_range_46 : decode cX2_range 46 = .ok (.sipush 9999, 3) := by decide +kernel
theorem dX2_range_49 : decode cX2_range 49 = .ok (.goto 5, 3) := by decide +kernel
theorem dX2_range_52 : decode cX2_range 52 = .ok (.bipush 99, 2) := by decide +kernel
theorem dX2_range_54 : decode cX2_range 54 = .ok (.if_icmp .le 6, 3) := by decide +kernel
theorem dX2_range_57 : decode cX2_range 57 = .ok (.bipush (-2), 2) := by decide +kernel
theorem dX2_range_59 : decode cX2_range 59 = .ok (.ireturn, 1) := by decide +kernel
theorem dX2_range_60 : decode cX2_range 60 = .ok (.aload_n 0, 1) := by decide +kernel
theorem dX2_range_61 : decode cX2_range 61 = .ok (.getfield 13, 3) := by decide +kernel
theorem dX2_range_64 : decode cX2_range 64 = .ok (.iconst 3, 1) := by decide +kernel
theorem dX2_range_65 : decode cX2_range 65 = .ok (.iload_n 1, 1) := by decide +kernel
theorem dX2_range_66 : decode cX2_range 66 = .ok (.imul, 1) := by decide +kernel
theorem dX2_range_67 : decode cX2_range 67 = .ok (.iload_n 2, 1) := by decide +kernel
theorem dX2_range_68 : decode cX2_range 68 = .ok (.iadd, 1) := by decide +kernel
theorem dX2_range_69 : decode cX2_range 69 = .ok (.iload_n 3, 1) := by decide +kernel
theorem dX2_range_70 : decode cX2_range 70 = .ok (.iastore, 1) := by decide +kernel
theorem dX2_range_71 : decode cX2_range 71 = .ok (.aload_n 0, 1) := by decide +kernel
theorem dX2_range_72 : decode cX2_range 72 = .ok (.getfield 16, 3) := by decide +kernel
theorem dX2_range_75 : decode cX2_range 75 = .ok (.iconst 3, 1) := by decide +kernel
theorem dX2_range_76 : decode cX2_range 76 = .ok (.iload_n 1, 1) := by decide +kernel
theorem dX2_range_77 : decode cX2_range 77 = .ok (.imul, 1) := by decide +kernel
theorem dX2_range_78 : decode cX2_range 78 = .ok (.iload_n 2, 1) := by decide +kernel
theorem dX2_range_79 : decode cX2_range 79 = .ok (.iadd, 1) := by decide +kernel
theorem dX2_range_80 : decode cX2_range 80 = .ok (.iload 4, 2) := by decide +kernel
theorem dX2_range_82 : decode cX2_range 82 = .ok (.iastore, 1) := by decide +kernel
theorem dX2_range_83 : decode cX2_range 83 = .ok (.aload_n 0, 1) := by decide +kernel
theorem dX2_range_84 : decode cX2_range 84 = .ok (.getfield 28, 3) := by decide +kernel
theorem dX2_range_87 : decode cX2_range 87 = .ok (.iload_n 1, 1) := by decide +kernel
theorem dX2_range_88 : decode cX2_range 88 = .ok (.iconst 0, 1) := by decide +kernel
theorem dX2_range_89 : decode cX2_range 89 = .ok (.bastore, 1) := by decide +kernel
theorem dX2_range_90 : decode cX2_range 90 = .ok (.aload_n 0, 1) := by decide +kernel
theorem dX2_range_91 : decode cX2_range 91 = .ok (.iload_n 1, 1) := by decide +kernel
theorem dX2_range_92 : decode cX2_range 92 = .ok (.invokevirtual 95, 3) := by decide +kernel
theorem dX2_range_95 : decode cX2_range 95 = .ok (.ireturn, 1) := by decide +kernel
set_option maxRecDepth 20000 in
theorem ggX2_rule_X2_noKind : GoodIn wsX2_rule wsX2_noKind := goodIn_r _ [13, 14, 15, 16, 12, 17, 18, 19, 20, 21, 22, 23, 24, 25, 26, 27, 28, 29, 30, 31, 32, 33, 34, 35, 36, 37, 38] (by decide +kernel) (by decide +kernel)
set_option maxRecDepth 20000 in
theorem gX2_rule_X2_noKind : GoodIn wsX2_rule (wsV RX2 91 RX2 yX2_noKind wsX2_noKind) := goodIn_app (goodIn_of _ (by decide +kernel)) ggX2_rule_X2_noKind
set_option maxRecDepth 20000 in
theorem ggX2_rule_X2_in : GoodIn wsX2_rule wsX2_in := goodIn_r _ [17] (by decide +kernel) (by decide +kernel)
set_option maxRecDepth 20000 in
theorem gX2_rule_X2_in : GoodIn wsX2_rule (va_wsS RX2 65 yX2_in wsX2_in) := goodIn_app (goodIn_of _ (by decide +kernel)) ggX2_rule_X2_in
theorem dX2_rule_0 : decode cX2_rule 0 = .ok (.aload_n 0, 1) := by decide +kernel
theorem dX2_rule_1 : decode cX2_rule 1 = .ok (.iconst 0, 1) := by decide +kernel
theorem dX2_rule_2 : decode cX2_rule 2 = .ok (.putfield 59, 3) := by decide +kernel
theorem dX2_rule_5 : decode cX2_rule 5 = .ok (.aload_n 0, 1) := by decide +kernel
theorem dX2_rule_6 : decode cX2_rule 6 = .ok (.iload_n 1, 1) := by decide +kernel
theorem dX2_rule_7 : decode cX2_rule 7 = .ok (.invokevirtual 91, 3) := by decide +kernel
theorem dX2_rule_10 : decode cX2_rule 10 = .ok (.ifCond .eq 5, 3) := by decide +kernel
theorem dX2_rule_13 : decode cX2_rule 13 = .ok (.iconst (-1), 1) := by decide +kernel
theorem dX2_rule_14 : decode cX2_rule 14 = .ok (.ireturn, 1) := by decide +kernel
theorem dX2_rule_15 : decode cX2_rule 15 = .ok (.iload_n 2, 1) := by decide +kernel
theorem dX2_rule_16 : decode cX2_rule 16 = .ok (.ifCond .ne 15, 3) := by decide +kernel
theorem dX2_rule_19 : decode cX2_rule 19 = .ok (.iload_n 3, 1) := by decide +kernel
theorem dX2_rule_20 : decode cX2_rule 20 = .ok (.i2l, 1) := by decide +kernel
theorem dX2_rule_21 : decode cX2_rule 21 = .ok (.lconst 0, 1) := by decide +kernel
theorem dX2_rule_22 : decode cX2_rule 22 = .ok (.ldc2_w 99, 3) := by decide +kernel
theorem dX2_rule_25 : decode cX2_rule 25 = .ok (.invokestatic 65, 3) := by decide +kernel
theorem dX2_rule_28 : decode cX2_rule 28 = .ok (.ifCond .ne 37, 3) := by decide +kernel
theorem dX2_rule_31 : decode cX2_rule 31 = .ok (.iload_n 2, 1) := by decide +kernel
theorem dX2_rule_32 : decode cX2_rule 32 = .ok (.iconst 1, 1) := by decide +kernel
theorem dX2_rule_33 : decode cX2_rule 33 = .ok (.if_icmp .ne 15, 3) := by decide +kernel
theorem dX2_rule_36 : decode cX2_rule 36 = .ok (.iload_n 3, 1) := by decide +kernel
theorem dX2_rule_37 : decode cX2_rule 37 = .ok (.i2l, 1) := by decide +kernel
theorem dX2_rule_38 : decode cX2_rule 38 = .ok (.lconst 1, 1) := by decide +kernel
theorem dX2_rule_39 : decode cX2_rule 39 = .ok (.ldc2_w 103, 3) := by decide +kernel
theorem dX2_rule_42 : decode cX2_rule 42 = .ok (.invokestatic 65, 3) := by decide +kernel
theorem dX2_rule_45 : decode cX2_rule 45 = .ok (.ifCond .ne 20, 3) := by decide +kernel
theorem dX2_rule_48 : decode cX2_rule 48 = .ok (.iload_n 2, 1) := by decide +kernel
theorem dX2_rule_49 : decode cX2_rule 49 = .ok (.iconst 2, 1) := by decide +kernel
theorem dX2_rule_50 : decode cX2_rule 50 = .ok (.if_icmp .ne 19, 3) := by decide +kernel
theorem dX2_rule_53 : decode cX2_rule 53 = .ok (.iload_n 3, 1) := by decide +kernel
theorem dX2_rule_54 : decode cX2_rule 54 = .ok (.i2l, 1) := by decide +kernel
theorem dX2_rule_55 : decode cX2_rule 55 = .ok (.lconst 0, 1) := by decide +kernel
theorem dX2_rule_56 : decode cX2_rule 56 = .ok (.ldc2_w 105, 3) := by decide +kernel
theorem dX2_rule_59 : decode cX2_rule 59 = .ok (.invokestatic 65, 3) := by decide +kernel
theorem dX2_rule_62 : decode cX2_rule 62 = .ok (.ifCond .eq 7, 3) := by decide +kernel
theorem dX2_rule_65 : decode cX2_rule 65 = .ok (.iconst 1, 1) := by decide +kernel
theorem dX2_rule_66 : decode cX2_rule 66 = .ok (.goto 4, 3) := by decide +kernel
theorem dX2_rule_69 : decode cX2_rule 69 = .ok (.iconst 0, 1) := by decide +kernel
theorem dX2_rule_70 : decode cX2_rule 70 = .ok (.istore 4, 2) := by decide +kernel
theorem dX2_rule_72 : decode cX2_rule 72 = .ok (.iload 4, 2) := by decide +kernel
theorem dX2_rule_74 : decode cX2_rule 74 = .ok (.ifCond .ne 6, 3) := by decide +kernel
theorem dX2_rule_77 : decode cX2_rule 77 = .ok (.bipush (-2), 2) := by decide +kernel
theorem dX2_rule_79 : decode cX2_rule 79 = .ok (.ireturn, 1) := by decide +kernel
theorem dX2_rule_80 : decode cX2_rule 80 = .ok (.iload_n 2, 1) := by decide +kernel
theorem dX2_rule_81 : decode cX2_rule 81 = .ok (.ifCond .ne 12, 3) := by decide +kernel
theorem dX2_rule_84 : decode cX2_rule 84 = .ok (.aload_n 0, 1) := by decide +kernel
theorem dX2_rule_85 : decode cX2_rule 85 = .ok (.getfield 19, 3) := by decide +kernel
theorem dX2_rule_88 : decode cX2_rule 88 = .ok (.iload_n 1, 1) := by decide +kernel
theorem dX2_rule_89 : decode cX2_rule 89 = .ok (.iaload, 1) := by decide +kernel
theorem dX2_rule_90 : decode cX2_rule 90 = .ok (.goto 23, 3) := by decide +kernel
theorem dX2_rule_93 : decode cX2_rule 93 = .ok (.iload_n 2, 1) := by decide +kernel
theorem dX2_rule_94 : decode cX2_rule 94 = .ok (.iconst 1, 1) := by decide +kernel
theorem dX2_rule_95 : decode cX2_rule 95 = .ok (.if_icmp .ne 12, 3) := by decide +kernel
theorem dX2_rule_98 : decode cX2_rule 98 = .ok (.aload_n 0, 1) := by decide +kernel
theorem dX2_rule_99 : decode cX2_rule 99 = .ok (.getfield 22, 3) := by decide +kernel
theorem dX2_rule_102 : decode cX2_rule 102 = .ok (.iload_n 1, 1) := by decide +kernel
theorem dX2_rule_103 : decode cX2_rule 103 = .ok (.iaload, 1) := by decide +kernel
theorem dX2_rule_104 : decode cX2_rule 104 = .ok (.goto 9, 3) := by decide +kernel
theorem dX2_rule_107 : decode cX2_rule 107 = .ok (.aload_n 0, 1) := by decide +kernel
theorem dX2_rule_108 : decode cX2_rule 108 = .ok (.getfield 25, 3) := by decide +kernel
theorem dX2_rule_111 : decode cX2_rule 111 = .ok (.iload_n 1, 1) := by decide +kernel
theorem dX2_rule_112 : decode cX2_rule 112 = .ok (.iaload, 1) := by decide +kernel
theorem dX2_rule_113 : decode cX2_rule 113 = .ok (.istore 5, 2) := by decide +kernel
theorem dX2_rule_115 : decode cX2_rule 115 = .ok (.iload_n 2, 1) := by decide +kernel
theorem dX2_rule_116 : decode cX2_rule 116 = .ok (.ifCond .ne 20, 3) := by decide +kernel
theorem dX2_rule_119 : decode cX2_rule 119 = .ok (.aload_n 0, 1) := by decide +kernel
theorem dX2_rule_120 : decode cX2_rule 120 = .ok (.getfield 19, 3) := by decide +kernel
theorem dX2_rule_123 : decode cX2_rule 123 = .ok (.iload_n 1, 1) := by decide +kernel
theorem dX2_rule_124 : decode cX2_rule 124 = .ok (.iload_n 3, 1) := by decide +kernel
theorem dX2_rule_125 : decode cX2_rule 125 = .ok (.iastore, 1) := by decide +kernel
theorem dX2_rule_126 : decode cX2_rule 126 = .ok (.aload_n 0, 1) := by decide +kernel
theorem dX2_rule_127 : decode cX2_rule 127 = .ok (.getfield 28, 3) := by decide +kernel
theorem dX2_rule_130 : decode cX2_rule 130 = .ok (.iload_n 1, 1) := by decide +kernel
theorem dX2_rule_131 : decode cX2_rule 131 = .ok (.iconst 0, 1) := by decide +kernel
theorem dX2_rule_132 : decode cX2_rule 132 = .ok (.bastore, 1) := by decide +kernel
theorem dX2_rule_133 : decode cX2_rule 133 = .ok (.goto 25, 3) := by decide +kernel
theorem dX2_rule_136 : decode cX2_rule 136 = .ok (.iload_n 2, 1) := by decide +kernel
theorem dX2_rule_137 : decode cX2_rule 137 = .ok (.iconst 1, 1) := by decide +kernel
theorem dX2_rule_138 : decode cX2_rule 138 = .ok (.if_icmp .ne 13, 3) := by decide +kernel
theorem dX2_rule_141 : decode cX2_rule 141 = .ok (.aload_n 0, 1) := by decide +kernel
theorem dX2_rule_142 : decode cX2_rule 142 = .ok (.getfield 22, 3) := by decide +kernel
theorem dX2_rule_145 : decode cX2_rule 145 = .ok (.iload_n 1, 1) := by decide +kernel
theorem dX2_rule_146 : decode cX2_rule 146 = .ok (.iload_n 3, 1) := by decide +kernel
theorem dX2_rule_147 : decode cX2_rule 147 = .ok (.iastore, 1) := by decide +kernel
theorem dX2_rule_148 : decode cX2_rule 148 = .ok (.goto 10, 3) := by decide +kernel
theorem dX2_rule_151 : decode cX2_rule 151 = .ok (.aload_n 0, 1) := by decide +kernel
theorem dX2_rule_152 : decode cX2_rule 152 = .ok (.getfield 25, 3) := by decide +kernel
theorem dX2_rule_155 : decode cX2_rule 155 = .ok (.iload_n 1, 1) := by decide +kernel
theorem dX2_rule_156 : decode cX2_rule 156 = .ok (.iload_n 3, 1) := by decide +kernel
theorem dX2_rule_157 : decode cX2_rule 157 = .ok (.iastore, 1) := by decide +kernel
theorem dX2_rule_158 : decode cX2_rule 158 = .ok (.iload 5, 2) := by decide +kernel
theorem dX2_rule_160 : decode cX2_rule 160 = .ok (.ireturn, 1) := by decide +kernel
set_option maxRecDepth 20000 in
theorem ggX2_variants_X2_noKind : GoodIn wsX2_variants wsX2_noKind := goodIn_r _ [6, 7, 8, 9, 5, 10, 37, 38, 39, 40, 41, 42, 43, 44, 45, 46, 47, 48, 49, 50, 51, 52, 53, 54, 55, 56, 57] (by decide +kernel) (by decide +kernel)
set_option maxRecDepth 20000 in
theorem gX2_variants_X2_noKind : GoodIn wsX2_variants (wsV RX2 91 RX2 yX2_noKind wsX2_noKind) := goodIn_app (goodIn_of _ (by decide +kernel)) ggX2_variants_X2_noKind
set_option maxRecDepth 20000 in
theorem ggX2_variants_X2_tell : GoodIn wsX2_variants wsX2_tell := goodIn_r _ [14, 15, 16, 17, 18, 19, 20, 21, 22, 5, 23, 24, 25, 26, 27, 28, 8, 9, 10, 29, 30, 31, 32, 33, 34, 35, 36, 37, 38, 39, 40, 41, 42, 43, 44, 45, 46, 47, 48, 49, 50, 51, 52, 53, 54, 55, 56, 57] (by decide +kernel) (by decide +kernel)
set_option maxRecDepth 20000 in
theorem gX2_variants_X2_tell : GoodIn wsX2_variants (wsV RX2 95 RX2 yX2_tell wsX2_tell) := goodIn_app (goodIn_of _ (by decide +kernel)) ggX2_variants_X2_tell
theorem dX2_variants_0 : decode cX2_variants 0 = .ok (.aload_n 0, 1) := by decide +kernel
theorem dX2_variants_1 : decode cX2_variants 1 = .ok (.iconst 0, 1) := by decide +kernel
theorem dX2_variants_2 : decode cX2_variants 2 = .ok (.putfield 59, 3) := by decide +kernel
theorem dX2_variants_5 : decode cX2_variants 5 = .ok (.aload_n 0, 1) := by decide +kernel
theorem dX2_variants_6 : decode cX2_variants 6 = .ok (.iload_n 1, 1) := by decide +kernel
theorem dX2_variants_7 : decode cX2_variants 7 = .ok (.invokevirtual 91, 3) := by decide +kernel
theorem dX2_variants_10 : decode cX2_variants 10 = .ok (.ifCond .eq 7, 3) := by decide +kernel
theorem dX2_variants_13 : decode cX2_variants 13 = .ok (.iconst (-1), 1) := by decide +kernel
theorem dX2_variants_14 : decode cX2_variants 14 = .ok (.goto 8, 3) := by decide +kernel
theorem dX2_variants_17 : decode cX2_variants 17 = .ok (.aload_n 0, 1) := by decide +kernel
theorem dX2_variants_18 : decode cX2_variants 18 = .ok (.iload_n 1, 1) := by decide +kernel
theorem dX2_variants_19 : decode cX2_variants 19 = .ok (.invokevirtual 95, 3) := by decide +kernel
theorem dX2_variants_22 : decode cX2_variants 22 = .ok (.ireturn, 1) := by decide +kernel
set_option maxRecDepth 20000 in
theorem ggX2_variant_X2_noVariant : GoodIn wsX2_variant wsX2_noVariant := goodIn_r _ [7, 8, 9, 10, 6, 11, 12, 13, 14, 15, 16, 17, 18, 19, 20, 21, 22, 23, 24, 25, 26, 27, 28, 2, 29, 30, 31, 32, 33, 34, 35, 36, 37, 38, 39, 40, 45, 46, 47, 48, 49, 50, 51, 52, 53, 54, 55, 56, 57, 58, 59, 60, 61, 62, 63, 64, 65] (by decide +kernel) (by decide +kernel)
set_option maxRecDepth 20000 in
theorem gX2_variant_X2_noVariant : GoodIn wsX2_variant (wsV RX2 107 RX2 yX2_noVariant wsX2_noVariant) := goodIn_app (goodIn_of _ (by decide +kernel)) ggX2_variant_X2_noVariant
set_option maxRecDepth 20000 in
theorem ggX2_variant_X2_pairOf : GoodIn wsX2_variant wsX2_pairOf := goodIn_r _ [44, 23, 45, 46, 47, 48, 49, 50, 51, 52, 53, 54, 55, 56, 57, 58, 59, 60, 61, 62, 63, 64, 65] (by decide +kernel) (by decide +kernel)
set_option maxRecDepth 20000 in
theorem gX2_variant_X2_pairOf : GoodIn wsX2_variant (wsV RX2 111 RX2 yX2_pairOf wsX2_pairOf) := goodIn_app (goodIn_of _ (by decide +kernel)) ggX2_variant_X2_pairOf
set_option maxRecDepth 20000 in
theorem ggX2_variant_X2_answerOf : GoodIn wsX2_variant wsX2_answerOf := goodIn_r _ [32] (by decide +kernel) (by decide +kernel)
set_option maxRecDepth 20000 in
theorem gX2_variant_X2_answerOf : GoodIn wsX2_variant (va_wsS RX2 72 yX2_answerOf wsX2_answerOf) := goodIn_app (goodIn_of _ (by decide +kernel)) ggX2_variant_X2_answerOf
set_option maxRecDepth 20000 in
theorem ggX2_variant_X2_carries : GoodIn wsX2_variant wsX2_carries := goodIn_r _ [35] (by decide +kernel) (by decide +kernel)
set_option maxRecDepth 20000 in
theorem gX2_variant_X2_carries : GoodIn wsX2_variant (va_wsS RX2 76 yX2_carries wsX2_carries) := goodIn_app (goodIn_of _ (by decide +kernel)) ggX2_variant_X2_carries
theorem dX2_variant_0 : decode cX2_variant 0 = .ok (.aload_n 0, 1) := by decide +kernel
theorem dX2_variant_1 : decode cX2_variant 1 = .ok (.iconst 0, 1) := by decide +kernel
theorem dX2_variant_2 : decode cX2_variant 2 = .ok (.putfield 59, 3) := by decide +kernel
theorem dX2_variant_5 : decode cX2_variant 5 = .ok (.aload_n 0, 1) := by decide +kernel
theorem dX2_variant_6 : decode cX2_variant 6 = .ok (.iload_n 1, 1) := by decide +kernel
theorem dX2_variant_7 : decode cX2_variant 7 = .ok (.iload_n 2, 1) := by decide +kernel
theorem dX2_variant_8 : decode cX2_variant 8 = .ok (.invokevirtual 107, 3) := by decide +kernel
theorem dX2_variant_11 : decode cX2_variant 11 = .ok (.ifCond .eq 5, 3) := by decide +kernel
theorem dX2_variant_14 : decode cX2_variant 14 = .ok (.iconst (-1), 1) := by decide +kernel
theorem dX2_variant_15 : decode cX2_variant 15 = .ok (.ireturn, 1) := by decide +kernel
theorem dX2_variant_16 : decode cX2_variant 16 = .ok (.aload_n 0, 1) := by decide +kernel
theorem dX2_variant_17 : decode cX2_variant 17 = .ok (.iload_n 1, 1) := by decide +kernel
theorem dX2_variant_18 : decode cX2_variant 18 = .ok (.iload_n 2, 1) := by decide +kernel
theorem dX2_variant_19 : decode cX2_variant 19 = .ok (.invokevirtual 111, 3) := by decide +kernel
theorem dX2_variant_22 : decode cX2_variant 22 = .ok (.bipush 100, 2) := by decide +kernel
theorem dX2_variant_24 : decode cX2_variant 24 = .ok (.idiv, 1) := by decide +kernel
theorem dX2_variant_25 : decode cX2_variant 25 = .ok (.istore 4, 2) := by decide +kernel
theorem dX2_variant_27 : decode cX2_variant 27 = .ok (.aload_n 0, 1) := by decide +kernel
theorem dX2_variant_28 : decode cX2_variant 28 = .ok (.iload_n 1, 1) := by decide +kernel
theorem dX2_variant_29 : decode cX2_variant 29 = .ok (.iload_n 2, 1) := by decide +kernel
theorem dX2_variant_30 : decode cX2_variant 30 = .ok (.invokevirtual 111, 3) := by decide +kernel
theorem dX2_variant_33 : decode cX2_variant 33 = .ok (.bipush 100, 2) := by decide +kernel
theorem dX2_variant_35 : decode cX2_variant 35 = .ok (.irem, 1) := by decide +kernel
theorem dX2_variant_36 : decode cX2_variant 36 = .ok (.istore 5, 2) := by decide +kernel
theorem dX2_variant_38 : decode cX2_variant 38 = .ok (.iload_n 3, 1) := by decide +kernel
theorem dX2_variant_39 : decode cX2_variant 39 = .ok (.tableswitch 71 0 3 #[29, 32, 35, 49], 29) := by decide +kernel
theorem dX2_variant_68 : decode cX2_variant 68 = .ok (.iload 4, 2) := by decide +kernel
theorem dX2_variant_70 : decode cX2_variant 70 = .ok (.ireturn, 1) := by decide +kernel
theorem dX2_variant_71 : decode cX2_variant 71 = .ok (.iload 5, 2) := by decide +kernel
theorem dX2_variant_73 : decode cX2_variant 73 = .ok (.ireturn, 1) := by decide +kernel
theorem dX2_variant_74 : decode cX2_variant 74 = .ok (.aload_n 0, 1) := by decide +kernel
theorem dX2_variant_75 : decode cX2_variant 75 = .ok (.getfield 7, 3) := by decide +kernel
theorem dX2_variant_78 : decode cX2_variant 78 = .ok (.iload_n 1, 1) := by decide +kernel
theorem dX2_variant_79 : decode cX2_variant 79 = .ok (.iaload, 1) := by decide +kernel
theorem dX2_variant_80 : decode cX2_variant 80 = .ok (.iload 4, 2) := by decide +kernel
theorem dX2_variant_82 : decode cX2_variant 82 = .ok (.iload 5, 2) := by decide +kernel
theorem dX2_variant_84 : decode cX2_variant 84 = .ok (.invokestatic 72, 3) := by decide +kernel
theorem dX2_variant_87 : decode cX2_variant 87 = .ok (.ireturn, 1) := by decide +kernel
theorem dX2_variant_88 : decode cX2_variant 88 = .ok (.aload_n 0, 1) := by decide +kernel
theorem dX2_variant_89 : decode cX2_variant 89 = .ok (.getfield 7, 3) := by decide +kernel
theorem dX2_variant_92 : decode cX2_variant 92 = .ok (.iload_n 1, 1) := by decide +kernel
theorem dX2_variant_93 : decode cX2_variant 93 = .ok (.iaload, 1) := by decide +kernel
theorem dX2_variant_94 : decode cX2_variant 94 = .ok (.iload 4, 2) := by decide +kernel
theorem dX2_variant_96 : decode cX2_variant 96 = .ok (.iload 5, 2) := by decide +kernel
theorem dX2_variant_98 : decode cX2_variant 98 = .ok (.invokestatic 76, 3) := by decide +kernel
theorem dX2_variant_101 : decode cX2_variant 101 = .ok (.ifCond .eq 7, 3) := by decide +kernel
theorem dX2_variant_104 : decode cX2_variant 104 = .ok (.iconst 1, 1) := by decide +kernel
theorem dX2_variant_105 : decode cX2_variant 105 = .ok (.goto 4, 3) := by decide +kernel
theorem dX2_variant_108 : decode cX2_variant 108 = .ok (.iconst 0, 1) := by decide +kernel
theorem dX2_variant_109 : decode cX2_variant 109 = .ok (.ireturn, 1) := by decide +kernel
theorem dX2_variant_110 : decode cX2_variant 110 = .ok (.bipush (-2), 2) := by decide +kernel
theorem dX2_variant_112 : decode cX2_variant 112 = .ok (.ireturn, 1) := by decide +kernel
set_option maxRecDepth 20000 in
theorem ggX2_find_X2_noKind : GoodIn wsX2_find wsX2_noKind := goodIn_r _ [6, 7, 8, 9, 5, 10, 41, 42, 43, 44, 45, 46, 47, 48, 49, 50, 51, 52, 53, 54, 55, 56, 57, 58, 59, 60, 61] (by decide +kernel) (by decide +kernel)
set_option maxRecDepth 20000 in
theorem gX2_find_X2_noKind : GoodIn wsX2_find (wsV RX2 91 RX2 yX2_noKind wsX2_noKind) := goodIn_app (goodIn_of _ (by decide +kernel)) ggX2_find_X2_noKind
set_option maxRecDepth 20000 in
theorem ggX2_find_X2_tell : GoodIn wsX2_find wsX2_tell := goodIn_r _ [14, 15, 16, 17, 18, 19, 20, 21, 22, 5, 23, 24, 25, 26, 27, 28, 8, 9, 10, 29, 30, 31, 32, 33, 34, 35, 36, 41, 42, 43, 44, 45, 46, 47, 48, 49, 50, 51, 52, 53, 54, 55, 56, 57, 58, 59, 60, 61] (by decide +kernel) (by decide +kernel)
set_option maxRecDepth 20000 in
theorem gX2_find_X2_tell : GoodIn wsX2_find (wsV RX2 95 RX2 yX2_tell wsX2_tell) := goodIn_app (goodIn_of _ (by decide +kernel)) ggX2_find_X2_tell
set_option maxRecDepth 20000 in
theorem ggX2_find_X2_pairOf : GoodIn wsX2_find wsX2_pairOf := goodIn_r _ [40, 18, 41, 42, 43, 44, 45, 46, 47, 48, 49, 50, 51, 52, 53, 54, 55, 56, 57, 58, 59, 60, 61] (by decide +kernel) (by decide +kernel)
set_option maxRecDepth 20000 in
theorem gX2_find_X2_pairOf : GoodIn wsX2_find (wsV RX2 111 RX2 yX2_pairOf wsX2_pairOf) := goodIn_app (goodIn_of _ (by decide +kernel)) ggX2_find_X2_pairOf
theorem dX2_find_0 : decode cX2_find 0 = .ok (.aload_n 0, 1) := by decide +kernel
theorem dX2_find_1 : decode cX2_find 1 = .ok (.iconst 0, 1) := by decide +kernel
theorem dX2_find_2 : decode cX2_find 2 = .ok (.putfield 59, 3) := by decide +kernel
theorem dX2_find_5 : decode cX2_find 5 = .ok (.aload_n 0, 1) := by decide +kernel
theorem dX2_find_6 : decode cX2_find 6 = .ok (.iload_n 1, 1) := by decide +kernel
theorem dX2_find_7 : decode cX2_find 7 = .ok (.invokevirtual 91, 3) := by decide +kernel
theorem dX2_find_10 : decode cX2_find 10 = .ok (.ifCond .eq 5, 3) := by decide +kernel
theorem dX2_find_13 : decode cX2_find 13 = .ok (.iconst (-1), 1) := by decide +kernel
theorem dX2_find_14 : decode cX2_find 14 = .ok (.ireturn, 1) := by decide +kernel
theorem dX2_find_15 : decode cX2_find 15 = .ok (.iconst 0, 1) := by decide +kernel
theorem dX2_find_16 : decode cX2_find 16 = .ok (.istore 4, 2) := by decide +kernel
theorem dX2_find_18 : decode cX2_find 18 = .ok (.iload 4, 2) := by decide +kernel
theorem dX2_find_20 : decode cX2_find 20 = .ok (.aload_n 0, 1) := by decide +kernel
theorem dX2_find_21 : decode cX2_find 21 = .ok (.iload_n 1, 1) := by decide +kernel
theorem dX2_find_22 : decode cX2_find 22 = .ok (.invokevirtual 95, 3) := by decide +kernel
theorem dX2_find_25 : decode cX2_find 25 = .ok (.if_icmp .ge 40, 3) := by decide +kernel
theorem dX2_find_28 : decode cX2_find 28 = .ok (.aload_n 0, 1) := by decide +kernel
theorem dX2_find_29 : decode cX2_find 29 = .ok (.iload_n 1, 1) := by decide +kernel
theorem dX2_find_30 : decode cX2_find 30 = .ok (.iload 4, 2) := by decide +kernel
theorem dX2_find_32 : decode cX2_find 32 = .ok (.invokevirtual 111, 3) := by decide +kernel
theorem dX2_find_35 : decode cX2_find 35 = .ok (.bipush 100, 2) := by decide +kernel
theorem dX2_find_37 : decode cX2_find 37 = .ok (.idiv, 1) := by decide +kernel
theorem dX2_find_38 : decode cX2_find 38 = .ok (.iload_n 2, 1) := by decide +kernel
theorem dX2_find_39 : decode cX2_find 39 = .ok (.if_icmp .ne 20, 3) := by decide +kernel
theorem dX2_find_42 : decode cX2_find 42 = .ok (.aload_n 0, 1) := by decide +kernel
theorem dX2_find_43 : decode cX2_find 43 = .ok (.iload_n 1, 1) := by decide +kernel
theorem dX2_find_44 : decode cX2_find 44 = .ok (.iload 4, 2) := by decide +kernel
theorem dX2_find_46 : decode cX2_find 46 = .ok (.invokevirtual 111, 3) := by decide +kernel
theorem dX2_find_49 : decode cX2_find 49 = .ok (.bipush 100, 2) := by decide +kernel
theorem dX2_find_51 : decode cX2_find 51 = .ok (.irem, 1) := by decide +kernel
theorem dX2_find_52 : decode cX2_find 52 = .ok (.iload_n 3, 1) := by decide +kernel
theorem dX2_find_53 : decode cX2_find 53 = .ok (.if_icmp .ne 6, 3) := by decide +kernel
theorem dX2_find_56 : decode cX2_find 56 = .ok (.iload 4, 2) := by decide +kernel
theorem dX2_find_58 : decode cX2_find 58 = .ok (.ireturn, 1) := by decide +kernel
theorem dX2_find_59 : decode cX2_find 59 = .ok (.iinc 4 1, 3) := by decide +kernel
theorem dX2_find_62 : decode cX2_find 62 = .ok (.goto (-44), 3) := by decide +kernel
theorem dX2_find_65 : decode cX2_find 65 = .ok (.bipush (-9), 2) := by decide +kernel
theorem dX2_find_67 : decode cX2_find 67 = .ok (.ireturn, 1) := by decide +kernel
set_option maxRecDepth 20000 in
theorem ggX2_slipAt_X2_pairOf : GoodIn wsX2_slipAt wsX2_pairOf := goodIn_r _ [6, 7, 22, 23, 24, 25, 26, 27, 28, 29, 30, 31, 32, 33, 34, 35, 36, 37, 38, 39, 40, 41, 42] (by decide +kernel) (by decide +kernel)
set_option maxRecDepth 20000 in
theorem gX2_slipAt_X2_pairOf : GoodIn wsX2_slipAt (wsV RX2 111 RX2 yX2_pairOf wsX2_pairOf) := goodIn_app (goodIn_of _ (by decide +kernel)) ggX2_slipAt_X2_pairOf
set_option maxRecDepth 20000 in
theorem ggX2_slipAt_X2_slipOf : GoodIn wsX2_slipAt wsX2_slipOf := goodIn_r _ [10, 11, 12, 13, 14, 5, 15, 16, 17, 18, 19, 20, 21] (by decide +kernel) (by decide +kernel)
set_option maxRecDepth 20000 in
theorem gX2_slipAt_X2_slipOf : GoodIn wsX2_slipAt (va_wsS RX2 84 yX2_slipOf wsX2_slipOf) := goodIn_app (goodIn_of _ (by decide +kernel)) ggX2_slipAt_X2_slipOf
theorem dX2_slipAt_0 : decode cX2_slipAt 0 = .ok (.aload_n 0, 1) := by decide +kernel
theorem dX2_slipAt_1 : decode cX2_slipAt 1 = .ok (.getfield 7, 3) := by decide +kernel
theorem dX2_slipAt_4 : decode cX2_slipAt 4 = .ok (.iload_n 1, 1) := by decide +kernel
theorem dX2_slipAt_5 : decode cX2_slipAt 5 = .ok (.iaload, 1) := by decide +kernel
theorem dX2_slipAt_6 : decode cX2_slipAt 6 = .ok (.aload_n 0, 1) := by decide +kernel
theorem dX2_slipAt_7 : decode cX2_slipAt 7 = .ok (.iload_n 1, 1) := by decide +kernel
theorem dX2_slipAt_8 : decode cX2_slipAt 8 = .ok (.iload_n 2, 1) := by decide +kernel
theorem dX2_slipAt_9 : decode cX2_slipAt 9 = .ok (.invokevirtual 111, 3) := by decide +kernel
theorem dX2_slipAt_12 : decode cX2_slipAt 12 = .ok (.bipush 100, 2) := by decide +kernel
theorem dX2_slipAt_14 : decode cX2_slipAt 14 = .ok (.idiv, 1) := by decide +kernel
theorem dX2_slipAt_15 : decode cX2_slipAt 15 = .ok (.aload_n 0, 1) := by decide +kernel
theorem dX2_slipAt_16 : decode cX2_slipAt 16 = .ok (.iload_n 1, 1) := by decide +kernel
theorem dX2_slipAt_17 : decode cX2_slipAt 17 = .ok (.iload_n 2, 1) := by decide +kernel
theorem dX2_slipAt_18 : decode cX2_slipAt 18 = .ok (.invokevirtual 111, 3) := by decide +kernel
theorem dX2_slipAt_21 : decode cX2_slipAt 21 = .ok (.bipush 100, 2) := by decide +kernel
theorem dX2_slipAt_23 : decode cX2_slipAt 23 = .ok (.irem, 1) := by decide +kernel
theorem dX2_slipAt_24 : decode cX2_slipAt 24 = .ok (.iload_n 3, 1) := by decide +kernel
theorem dX2_slipAt_25 : decode cX2_slipAt 25 = .ok (.invokestatic 84, 3) := by decide +kernel
theorem dX2_slipAt_28 : decode cX2_slipAt 28 = .ok (.ireturn, 1) := by decide +kernel
set_option maxRecDepth 20000 in
theorem ggX2_rightAt_X2_pairOf : GoodIn wsX2_rightAt wsX2_pairOf := goodIn_r _ [6, 7, 11, 12, 13, 14, 15, 16, 17, 18, 19, 20, 21, 22, 23, 24, 25, 26, 27, 28, 29, 30, 31] (by decide +kernel) (by decide +kernel)
set_option maxRecDepth 20000 in
theorem gX2_rightAt_X2_pairOf : GoodIn wsX2_rightAt (wsV RX2 111 RX2 yX2_pairOf wsX2_pairOf) := goodIn_app (goodIn_of _ (by decide +kernel)) ggX2_rightAt_X2_pairOf
set_option maxRecDepth 20000 in
theorem ggX2_rightAt_X2_answerOf : GoodIn wsX2_rightAt wsX2_answerOf := goodIn_r _ [10] (by decide +kernel) (by decide +kernel)
set_option maxRecDepth 20000 in
theorem gX2_rightAt_X2_answerOf : GoodIn wsX2_rightAt (va_wsS RX2 72 yX2_answerOf wsX2_answerOf) := goodIn_app (goodIn_of _ (by decide +kernel)) ggX2_rightAt_X2_answerOf
theorem dX2_rightAt_0 : decode cX2_rightAt 0 = .ok (.aload_n 0, 1) := by decide +kernel
theorem dX2_rightAt_1 : decode cX2_rightAt 1 = .ok (.getfield 7, 3) := by decide +kernel
theorem dX2_rightAt_4 : decode cX2_rightAt 4 = .ok (.iload_n 1, 1) := by decide +kernel
theorem dX2_rightAt_5 : decode cX2_rightAt 5 = .ok (.iaload, 1) := by decide +kernel
theorem dX2_rightAt_6 : decode cX2_rightAt 6 = .ok (.aload_n 0, 1) := by decide +kernel
theorem dX2_rightAt_7 : decode cX2_rightAt 7 = .ok (.iload_n 1, 1) := by decide +kernel
theorem dX2_rightAt_8 : decode cX2_rightAt 8 = .ok (.iload_n 2, 1) := by decide +kernel
theorem dX2_rightAt_9 : decode cX2_rightAt 9 = .ok (.invokevirtual 111, 3) := by decide +kernel
theorem dX2_rightAt_12 : decode cX2_rightAt 12 = .ok (.bipush 100, 2) := by decide +kernel
theorem dX2_rightAt_14 : decode cX2_rightAt 14 = .ok (.idiv, 1) := by decide +kernel
theorem dX2_rightAt_15 : decode cX2_rightAt 15 = .ok (.aload_n 0, 1) := by decide +kernel
theorem dX2_rightAt_16 : decode cX2_rightAt 16 = .ok (.iload_n 1, 1) := by decide +kernel
theorem dX2_rightAt_17 : decode cX2_rightAt 17 = .ok (.iload_n 2, 1) := by decide +kernel
theorem dX2_rightAt_18 : decode cX2_rightAt 18 = .ok (.invokevirtual 111, 3) := by decide +kernel
theorem dX2_rightAt_21 : decode cX2_rightAt 21 = .ok (.bipush 100, 2) := by decide +kernel
theorem dX2_rightAt_23 : decode cX2_rightAt 23 = .ok (.irem, 1) := by decide +kernel
theorem dX2_rightAt_24 : decode cX2_rightAt 24 = .ok (.invokestatic 72, 3) := by decide +kernel
theorem dX2_rightAt_27 : decode cX2_rightAt 27 = .ok (.ireturn, 1) := by decide +kernel
set_option maxRecDepth 20000 in
theorem ggX2_slip_X2_noVariant : GoodIn wsX2_slip wsX2_noVariant := goodIn_r _ [7, 8, 9, 10, 6, 11, 12, 13, 14, 15, 16, 17, 18, 19, 20, 21, 22, 23, 24, 25, 26, 27, 28, 29, 30, 31, 32, 33, 34, 35, 36, 37, 38, 39, 40, 41, 50, 51, 52, 53, 54, 55, 56, 57, 58, 59, 60, 61, 62, 63, 64, 65, 66, 67, 68, 69, 70] (by decide +kernel) (by decide +kernel)
set_option maxRecDepth 20000 in
theorem gX2_slip_X2_noVariant : GoodIn wsX2_slip (wsV RX2 107 RX2 yX2_noVariant wsX2_noVariant) := goodIn_app (goodIn_of _ (by decide +kernel)) ggX2_slip_X2_noVariant
set_option maxRecDepth 20000 in
theorem ggX2_slip_X2_in : GoodIn wsX2_slip wsX2_in := goodIn_r _ [15] (by decide +kernel) (by decide +kernel)
set_option maxRecDepth 20000 in
theorem gX2_slip_X2_in : GoodIn wsX2_slip (va_wsS RX2 65 yX2_in wsX2_in) := goodIn_app (goodIn_of _ (by decide +kernel)) ggX2_slip_X2_in
set_option maxRecDepth 20000 in
theorem ggX2_slip_X2_slipAt : GoodIn wsX2_slip wsX2_slipAt := goodIn_r _ [45, 29, 46, 47, 48, 6, 49, 23, 37, 38, 39, 40, 41, 31, 32, 33, 34, 35, 36, 13, 14, 15, 50, 51, 52, 53, 54, 55, 56, 57, 58, 59, 60, 61, 62, 63, 64, 65, 66, 67, 68, 69, 70] (by decide +kernel) (by decide +kernel)
set_option maxRecDepth 20000 in
theorem gX2_slip_X2_slipAt : GoodIn wsX2_slip (wsV RX2 117 RX2 yX2_slipAt wsX2_slipAt) := goodIn_app (goodIn_of _ (by decide +kernel)) ggX2_slip_X2_slipAt
theorem dX2_slip_0 : decode cX2_slip 0 = .ok (.aload_n 0, 1) := by decide +kernel
theorem dX2_slip_1 : decode cX2_slip 1 = .ok (.iconst 0, 1) := by decide +kernel
theorem dX2_slip_2 : decode cX2_slip 2 = .ok (.putfield 59, 3) := by decide +kernel
theorem dX2_slip_5 : decode cX2_slip 5 = .ok (.aload_n 0, 1) := by decide +kernel
theorem dX2_slip_6 : decode cX2_slip 6 = .ok (.iload_n 1, 1) := by decide +kernel
theorem dX2_slip_7 : decode cX2_slip 7 = .ok (.iload_n 2, 1) := by decide +kernel
theorem dX2_slip_8 : decode cX2_slip 8 = .ok (.invokevirtual 107, 3) := by decide +kernel
theorem dX2_slip_11 : decode cX2_slip 11 = .ok (.ifCond .eq 5, 3) := by decide +kernel
theorem dX2_slip_14 : decode cX2_slip 14 = .ok (.iconst (-1), 1) := by decide +kernel
theorem dX2_slip_15 : decode cX2_slip 15 = .ok (.ireturn, 1) := by decide +kernel
theorem dX2_slip_16 : decode cX2_slip 16 = .ok (.iload_n 3, 1) := by decide +kernel
theorem dX2_slip_17 : decode cX2_slip 17 = .ok (.i2l, 1) := by decide +kernel
theorem dX2_slip_18 : decode cX2_slip 18 = .ok (.lconst 1, 1) := by decide +kernel
theorem dX2_slip_19 : decode cX2_slip 19 = .ok (.ldc2_w 115, 3) := by decide +kernel
theorem dX2_slip_22 : decode cX2_slip 22 = .ok (.invokestatic 65, 3) := by decide +kernel
theorem dX2_slip_25 : decode cX2_slip 25 = .ok (.ifCond .eq 13, 3) := by decide +kernel
theorem dX2_slip_28 : decode cX2_slip 28 = .ok (.aload_n 0, 1) := by decide +kernel
theorem dX2_slip_29 : decode cX2_slip 29 = .ok (.iload_n 1, 1) := by decide +kernel
theorem dX2_slip_30 : decode cX2_slip 30 = .ok (.iload_n 2, 1) := by decide +kernel
theorem dX2_slip_31 : decode cX2_slip 31 = .ok (.iload_n 3, 1) := by decide +kernel
theorem dX2_slip_32 : decode cX2_slip 32 = .ok (.invokevirtual 117, 3) := by decide +kernel
theorem dX2_slip_35 : decode cX2_slip 35 = .ok (.goto 5, 3) := by decide +kernel
theorem dX2_slip_38 : decode cX2_slip 38 = .ok (.bipush (-2), 2) := by decide +kernel
theorem dX2_slip_40 : decode cX2_slip 40 = .ok (.ireturn, 1) := by decide +kernel
set_option maxRecDepth 20000 in
theorem ggX2_tellsOf_X2_rightAt : GoodIn wsX2_tellsOf wsX2_rightAt := goodIn_r _ [5, 6, 7, 8, 9, 4, 10, 11, 12, 13, 14, 30, 31, 32, 33, 34, 35, 36, 37, 38, 39, 40, 41, 42, 43, 44, 45, 46, 47, 48, 49, 50] (by decide +kernel) (by decide +kernel)
set_option maxRecDepth 20000 in
theorem gX2_tellsOf_X2_rightAt : GoodIn wsX2_tellsOf (wsV RX2 120 RX2 yX2_rightAt wsX2_rightAt) := goodIn_app (goodIn_of _ (by decide +kernel)) ggX2_tellsOf_X2_rightAt
set_option maxRecDepth 20000 in
theorem ggX2_tellsOf_X2_slipAt : GoodIn wsX2_tellsOf wsX2_slipAt := goodIn_r _ [18, 6, 7, 8, 9, 4, 10, 11, 19, 20, 21, 22, 23, 12, 13, 14, 24, 25, 26, 27, 28, 29, 30, 31, 32, 33, 34, 35, 36, 37, 38, 39, 40, 41, 42, 43, 44, 45, 46, 47, 48, 49, 50] (by decide +kernel) (by decide +kernel)
set_option maxRecDepth 20000 in
theorem gX2_tellsOf_X2_slipAt : GoodIn wsX2_tellsOf (wsV RX2 117 RX2 yX2_slipAt wsX2_slipAt) := goodIn_app (goodIn_of _ (by decide +kernel)) ggX2_tellsOf_X2_slipAt
theorem dX2_tellsOf_0 : decode cX2_tellsOf 0 = .ok (.iload_n 3, 1) := by decide +kernel
theorem dX2_tellsOf_1 : decode cX2_tellsOf 1 = .ok (.aload_n 0, 1) := by decide +kernel
theorem dX2_tellsOf_2 : decode cX2_tellsOf 2 = .ok (.iload_n 1, 1) := by decide +kernel
theorem dX2_tellsOf_3 : decode cX2_tellsOf 3 = .ok (.iload_n 2, 1) := by decide +kernel
theorem dX2_tellsOf_4 : decode cX2_tellsOf 4 = .ok (.invokevirtual 120, 3) := by decide +kernel
theorem dX2_tellsOf_7 : decode cX2_tellsOf 7 = .ok (.if_icmp .ne 5, 3) := by decide +kernel
theorem dX2_tellsOf_10 : decode cX2_tellsOf 10 = .ok (.iconst 0, 1) := by decide +kernel
theorem dX2_tellsOf_11 : decode cX2_tellsOf 11 = .ok (.ireturn, 1) := by decide +kernel
theorem dX2_tellsOf_12 : decode cX2_tellsOf 12 = .ok (.iconst 1, 1) := by decide +kernel
theorem dX2_tellsOf_13 : decode cX2_tellsOf 13 = .ok (.istore 4, 2) := by decide +kernel
theorem dX2_tellsOf_15 : decode cX2_tellsOf 15 = .ok (.iload 4, 2) := by decide +kernel
theorem dX2_tellsOf_17 : decode cX2_tellsOf 17 = .ok (.bipush 6, 2) := by decide +kernel
theorem dX2_tellsOf_19 : decode cX2_tellsOf 19 = .ok (.if_icmp .ge 28, 3) := by decide +kernel
theorem dX2_tellsOf_22 : decode cX2_tellsOf 22 = .ok (.iload_n 3, 1) := by decide +kernel
theorem dX2_tellsOf_23 : decode cX2_tellsOf 23 = .ok (.ifCond .lt 18, 3) := by decide +kernel
theorem dX2_tellsOf_26 : decode cX2_tellsOf 26 = .ok (.aload_n 0, 1) := by decide +kernel
theorem dX2_tellsOf_27 : decode cX2_tellsOf 27 = .ok (.iload_n 1, 1) := by decide +kernel
theorem dX2_tellsOf_28 : decode cX2_tellsOf 28 = .ok (.iload_n 2, 1) := by decide +kernel
theorem dX2_tellsOf_29 : decode cX2_tellsOf 29 = .ok (.iload 4, 2) := by decide +kernel
theorem dX2_tellsOf_31 : decode cX2_tellsOf 31 = .ok (.invokevirtual 117, 3) := by decide +kernel
theorem dX2_tellsOf_34 : decode cX2_tellsOf 34 = .ok (.iload_n 3, 1) := by decide +kernel
theorem dX2_tellsOf_35 : decode cX2_tellsOf 35 = .ok (.if_icmp .ne 6, 3) := by decide +kernel
theorem dX2_tellsOf_38 : decode cX2_tellsOf 38 = .ok (.iload 4, 2) := by decide +kernel
theorem dX2_tellsOf_40 : decode cX2_tellsOf 40 = .ok (.ireturn, 1) := by decide +kernel
theorem dX2_tellsOf_41 : decode cX2_tellsOf 41 = .ok (.iinc 4 1, 3) := by decide +kernel
theorem dX2_tellsOf_44 : decode cX2_tellsOf 44 = .ok (.goto (-29), 3) := by decide +kernel
theorem dX2_tellsOf_47 : decode cX2_tellsOf 47 = .ok (.bipush (-9), 2) := by decide +kernel
theorem dX2_tellsOf_49 : decode cX2_tellsOf 49 = .ok (.ireturn, 1) := by decide +kernel
set_option maxRecDepth 20000 in
theorem ggX2_tells_X2_noVariant : GoodIn wsX2_tells wsX2_noVariant := goodIn_r _ [6, 7, 8, 9, 5, 10, 11, 12, 13, 14, 15, 16, 17, 18, 19, 20, 21, 22, 23, 24, 25, 26, 27, 28, 29, 30, 31, 32, 33, 34, 35, 36, 37, 38, 39, 40, 57, 58, 59, 60, 61, 62, 63, 64, 65, 66, 67, 68, 69, 70, 71, 72, 73, 74, 75, 76, 77] (by decide +kernel) (by decide +kernel)
set_option maxRecDepth 20000 in
theorem gX2_tells_X2_noVariant : GoodIn wsX2_tells (wsV RX2 107 RX2 yX2_noVariant wsX2_noVariant) := goodIn_app (goodIn_of _ (by decide +kernel)) ggX2_tells_X2_noVariant
set_option maxRecDepth 20000 in
theorem ggX2_tells_X2_tellsOf : GoodIn wsX2_tells wsX2_tellsOf := goodIn_r _ [44, 45, 46, 47, 5, 48, 28, 49, 50, 51, 52, 22, 30, 31, 32, 53, 54, 55, 56, 36, 37, 38, 39, 40, 33, 34, 35, 12, 13, 14, 57, 58, 59, 60, 61, 62, 63, 64, 65, 66, 67, 68, 69, 70, 71, 72, 73, 74, 75, 76, 77] (by decide +kernel) (by decide +kernel)
set_option maxRecDepth 20000 in
theorem gX2_tells_X2_tellsOf : GoodIn wsX2_tells (wsV RX2 123 RX2 yX2_tellsOf wsX2_tellsOf) := goodIn_app (goodIn_of _ (by decide +kernel)) ggX2_tells_X2_tellsOf
theorem dX2_tells_0 : decode cX2_tells 0 = .ok (.aload_n 0, 1) := by decide +kernel
theorem dX2_tells_1 : decode cX2_tells 1 = .ok (.iconst 0, 1) := by decide +kernel
theorem dX2_tells_2 : decode cX2_tells 2 = .ok (.putfield 59, 3) := by decide +kernel
theorem dX2_tells_5 : decode cX2_tells 5 = .ok (.aload_n 0, 1) := by decide +kernel
theorem dX2_tells_6 : decode cX2_tells 6 = .ok (.iload_n 1, 1) := by decide +kernel
theorem dX2_tells_7 : decode cX2_tells 7 = .ok (.iload_n 2, 1) := by decide +kernel
theorem dX2_tells_8 : decode cX2_tells 8 = .ok (.invokevirtual 107, 3) := by decide +kernel
theorem dX2_tells_11 : decode cX2_tells 11 = .ok (.ifCond .eq 7, 3) := by decide +kernel
theorem dX2_tells_14 : decode cX2_tells 14 = .ok (.iconst (-1), 1) := by decide +kernel
theorem dX2_tells_15 : decode cX2_tells 15 = .ok (.goto 10, 3) := by decide +kernel
theorem dX2_tells_18 : decode cX2_tells 18 = .ok (.aload_n 0, 1) := by decide +kernel
theorem dX2_tells_19 : decode cX2_tells 19 = .ok (.iload_n 1, 1) := by decide +kernel
theorem dX2_tells_20 : decode cX2_tells 20 = .ok (.iload_n 2, 1) := by decide +kernel
theorem dX2_tells_21 : decode cX2_tells 21 = .ok (.iload_n 3, 1) := by decide +kernel
theorem dX2_tells_22 : decode cX2_tells 22 = .ok (.invokevirtual 123, 3) := by decide +kernel
theorem dX2_tells_25 : decode cX2_tells 25 = .ok (.ireturn, 1) := by decide +kernel
set_option maxRecDepth 20000 in
theorem ggX2_plan_X2_noKind : GoodIn wsX2_plan wsX2_noKind := goodIn_r _ [9, 10, 11, 12, 8, 13, 14, 15, 16, 17, 18, 19, 20, 21, 22, 23, 24, 25, 26, 27, 28, 29, 30, 31, 32, 33, 34] (by decide +kernel) (by decide +kernel)
set_option maxRecDepth 20000 in
theorem gX2_plan_X2_noKind : GoodIn wsX2_plan (wsV RX2 91 RX2 yX2_noKind wsX2_noKind) := goodIn_app (goodIn_of _ (by decide +kernel)) ggX2_plan_X2_noKind
set_option maxRecDepth 20000 in
theorem ggX2_plan_X2_in : GoodIn wsX2_plan wsX2_in := goodIn_r _ [13] (by decide +kernel) (by decide +kernel)
set_option maxRecDepth 20000 in
theorem gX2_plan_X2_in : GoodIn wsX2_plan (va_wsS RX2 65 yX2_in wsX2_in) := goodIn_app (goodIn_of _ (by decide +kernel)) ggX2_plan_X2_in
theorem dX2_plan_0 : decode cX2_plan 0 = .ok (.aload_n 0, 1) := by decide +kernel
theorem dX2_plan_1 : decode cX2_plan 1 = .ok (.iconst 0, 1) := by decide +kernel
theorem dX2_plan_2 : decode cX2_plan 2 = .ok (.putfield 59, 3) := by decide +kernel
theorem dX2_plan_5 : decode cX2_plan 5 = .ok (.aload_n 0, 1) := by decide +kernel
theorem dX2_plan_6 : decode cX2_plan 6 = .ok (.iload_n 1, 1) := by decide +kernel
theorem dX2_plan_7 : decode cX2_plan 7 = .ok (.invokevirtual 91, 3) := by decide +kernel
theorem dX2_plan_10 : decode cX2_plan 10 = .ok (.ifCond .eq 5, 3) := by decide +kernel
theorem dX2_plan_13 : decode cX2_plan 13 = .ok (.iconst (-1), 1) := by decide +kernel
theorem dX2_plan_14 : decode cX2_plan 14 = .ok (.ireturn, 1) := by decide +kernel
theorem dX2_plan_15 : decode cX2_plan 15 = .ok (.iload_n 2, 1) := by decide +kernel
theorem dX2_plan_16 : decode cX2_plan 16 = .ok (.i2l, 1) := by decide +kernel
theorem dX2_plan_17 : decode cX2_plan 17 = .ok (.lconst 1, 1) := by decide +kernel
theorem dX2_plan_18 : decode cX2_plan 18 = .ok (.ldc2_w 126, 3) := by decide +kernel
theorem dX2_plan_21 : decode cX2_plan 21 = .ok (.invokestatic 65, 3) := by decide +kernel
theorem dX2_plan_24 : decode cX2_plan 24 = .ok (.ifCond .ne 6, 3) := by decide +kernel
theorem dX2_plan_27 : decode cX2_plan 27 = .ok (.bipush (-2), 2) := by decide +kernel
theorem dX2_plan_29 : decode cX2_plan 29 = .ok (.ireturn, 1) := by decide +kernel
theorem dX2_plan_30 : decode cX2_plan 30 = .ok (.aload_n 0, 1) := by decide +kernel
theorem dX2_plan_31 : decode cX2_plan 31 = .ok (.getfield 69, 3) := by decide +kernel
theorem dX2_plan_34 : decode cX2_plan 34 = .ok (.iload_n 2, 1) := by decide +kernel
theorem dX2_plan_35 : decode cX2_plan 35 = .ok (.iadd, 1) := by decide +kernel
theorem dX2_plan_36 : decode cX2_plan 36 = .ok (.bipush 40, 2) := by decide +kernel
theorem dX2_plan_38 : decode cX2_plan 38 = .ok (.if_icmp .le 6, 3) := by decide +kernel
theorem dX2_plan_41 : decode cX2_plan 41 = .ok (.bipush (-4), 2) := by decide +kernel
theorem dX2_plan_43 : decode cX2_plan 43 = .ok (.ireturn, 1) := by decide +kernel
theorem dX2_plan_44 : decode cX2_plan 44 = .ok (.iconst 0, 1) := by decide +kernel
theorem dX2_plan_45 : decode cX2_plan 45 = .ok (.istore_n 3, 1) := by decide +kernel
theorem dX2_plan_46 : decode cX2_plan 46 = .ok (.iload_n 3, 1) := by decide +kernel
theorem dX2_plan_47 : decode cX2_plan 47 = .ok (.iload_n 2, 1) := by decide +kernel
theorem dX2_plan_48 : decode cX2_plan 48 = .ok (.if_icmp .ge 29, 3) := by decide +kernel
theorem dX2_plan_51 : decode cX2_plan 51 = .ok (.aload_n 0, 1) := by decide +kernel
theorem dX2_plan_52 : decode cX2_plan 52 = .ok (.getfield 40, 3) := by decide +kernel
theorem dX2_plan_55 : decode cX2_plan 55 = .ok (.aload_n 0, 1) := by decide +kernel
theorem dX2_plan_56 : decode cX2_plan 56 = .ok (.getfield 69, 3) := by decide +kernel
theorem dX2_plan_59 : decode cX2_plan 59 = .ok (.iload_n 1, 1) := by decide +kernel
theorem dX2_plan_60 : decode cX2_plan 60 = .ok (.iastore, 1) := by decide +kernel
theorem dX2_plan_61 : decode cX2_plan 61 = .ok (.aload_n 0, 1) := by decide +kernel
theorem dX2_plan_62 : decode cX2_plan 62 = .ok (.dup, 1) := by decide +kernel
theorem dX2_plan_63 : decode cX2_plan 63 = .ok (.getfield 69, 3) := by decide +kernel
theorem dX2_plan_66 : decode cX2_plan 66 = .ok (.iconst 1, 1) := by decide +kernel
theorem dX2_plan_67 : decode cX2_plan 67 = .ok (.iadd, 1) := by decide +kernel
theorem dX2_plan_68 : decode cX2_plan 68 = .ok (.putfield 69, 3) := by decide +kernel
theorem dX2_plan_71 : decode cX2_plan 71 = .ok (.iinc 3 1, 3) := by decide +kernel
theorem dX2_plan_74 : decode cX2_plan 74 = .ok (.goto (-28), 3) := by decide +kernel
theorem dX2_plan_77 : decode cX2_plan 77 = .ok (.aload_n 0, 1) := by decide +kernel
theorem dX2_plan_78 : decode cX2_plan 78 = .ok (.getfield 69, 3) := by decide +kernel
theorem dX2_plan_81 : decode cX2_plan 81 = .ok (.ireturn, 1) := by decide +kernel
theorem dX2_clear_0 : decode cX2_clear 0 = .ok (.aload_n 0, 1) := by decide +kernel
theorem dX2_clear_1 : decode cX2_clear 1 = .ok (.iconst 0, 1) := by decide +kernel
theorem dX2_clear_2 : decode cX2_clear 2 = .ok (.putfield 59, 3) := by decide +kernel
theorem dX2_clear_5 : decode cX2_clear 5 = .ok (.aload_n 0, 1) := by decide +kernel
theorem dX2_clear_6 : decode cX2_clear 6 = .ok (.getfield 69, 3) := by decide +kernel
theorem dX2_clear_9 : decode cX2_clear 9 = .ok (.istore_n 1, 1) := by decide +kernel
theorem dX2_clear_10 : decode cX2_clear 10 = .ok (.aload_n 0, 1) := by decide +kernel
theorem dX2_clear_11 : decode cX2_clear 11 = .ok (.iconst 0, 1) := by decide +kernel
theorem dX2_clear_12 : decode cX2_clear 12 = .ok (.putfield 69, 3) := by decide +kernel
theorem dX2_clear_15 : decode cX2_clear 15 = .ok (.iload_n 1, 1) := by decide +kernel
theorem dX2_clear_16 : decode cX2_clear 16 = .ok (.ireturn, 1) := by decide +kernel
set_option maxRecDepth 20000 in
theorem ggX2_placed_X2_noPlace : GoodIn wsX2_placed wsX2_noPlace := goodIn_r _ [7, 8, 9, 10, 6, 11, 12, 13, 14, 15, 16, 17, 18, 19, 20, 21, 22, 23, 24, 25, 26, 27, 28, 29, 30, 31, 32] (by decide +kernel) (by decide +kernel)
set_option maxRecDepth 20000 in
theorem gX2_placed_X2_noPlace : GoodIn wsX2_placed (wsV RX2 128 RX2 yX2_noPlace wsX2_noPlace) := goodIn_app (goodIn_of _ (by decide +kernel)) ggX2_placed_X2_noPlace
theorem dX2_placed_0 : decode cX2_placed 0 = .ok (.aload_n 0, 1) := by decide +kernel
theorem dX2_placed_1 : decode cX2_placed 1 = .ok (.iconst 0, 1) := by decide +kernel
theorem dX2_placed_2 : decode cX2_placed 2 = .ok (.putfield 59, 3) := by decide +kernel
theorem dX2_placed_5 : decode cX2_placed 5 = .ok (.aload_n 0, 1) := by decide +kernel
theorem dX2_placed_6 : decode cX2_placed 6 = .ok (.iload_n 1, 1) := by decide +kernel
theorem dX2_placed_7 : decode cX2_placed 7 = .ok (.invokevirtual 128, 3) := by decide +kernel
theorem dX2_placed_10 : decode cX2_placed 10 = .ok (.ifCond .eq 7, 3) := by decide +kernel
theorem dX2_placed_13 : decode cX2_placed 13 = .ok (.iconst (-1), 1) := by decide +kernel
theorem dX2_placed_14 : decode cX2_placed 14 = .ok (.goto 9, 3) := by decide +kernel
theorem dX2_placed_17 : decode cX2_placed 17 = .ok (.aload_n 0, 1) := by decide +kernel
theorem dX2_placed_18 : decode cX2_placed 18 = .ok (.getfield 40, 3) := by decide +kernel
theorem dX2_placed_21 : decode cX2_placed 21 = .ok (.iload_n 1, 1) := by decide +kernel
theorem dX2_placed_22 : decode cX2_placed 22 = .ok (.iaload, 1) := by decide +kernel
theorem dX2_placed_23 : decode cX2_placed 23 = .ok (.ireturn, 1) := by decide +kernel
set_option maxRecDepth 20000 in
theorem ggX2_lines_X2_in : GoodIn wsX2_lines wsX2_in := goodIn_r _ [8] (by decide +kernel) (by decide +kernel)
set_option maxRecDepth 20000 in
theorem gX2_lines_X2_in : GoodIn wsX2_lines (va_wsS RX2 65 yX2_in wsX2_in) := goodIn_app (goodIn_of _ (by decide +kernel)) ggX2_lines_X2_in
theorem dX2_lines_0 : decode cX2_lines 0 = .ok (.aload_n 0, 1) := by decide +kernel
theorem dX2_lines_1 : decode cX2_lines 1 = .ok (.iconst 0, 1) := by decide +kernel
theorem dX2_lines_2 : decode cX2_lines 2 = .ok (.putfield 59, 3) := by decide +kernel
theorem dX2_lines_5 : decode cX2_lines 5 = .ok (.iload_n 1, 1) := by decide +kernel
theorem dX2_lines_6 : decode cX2_lines 6 = .ok (.i2l, 1) := by decide +kernel
theorem dX2_lines_7 : decode cX2_lines 7 = .ok (.ldc2_w 103, 3) := by decide +kernel
theorem dX2_lines_10 : decode cX2_lines 10 = .ok (.ldc2_w 82, 3) := by decide +kernel
theorem dX2_lines_13 : decode cX2_lines 13 = .ok (.invokestatic 65, 3) := by decide +kernel
theorem dX2_lines_16 : decode cX2_lines 16 = .ok (.ifCond .ne 6, 3) := by decide +kernel
theorem dX2_lines_19 : decode cX2_lines 19 = .ok (.bipush (-2), 2) := by decide +kernel
theorem dX2_lines_21 : decode cX2_lines 21 = .ok (.ireturn, 1) := by decide +kernel
theorem dX2_lines_22 : decode cX2_lines 22 = .ok (.aload_n 0, 1) := by decide +kernel
theorem dX2_lines_23 : decode cX2_lines 23 = .ok (.getfield 43, 3) := by decide +kernel
theorem dX2_lines_26 : decode cX2_lines 26 = .ok (.istore_n 2, 1) := by decide +kernel
theorem dX2_lines_27 : decode cX2_lines 27 = .ok (.aload_n 0, 1) := by decide +kernel
theorem dX2_lines_28 : decode cX2_lines 28 = .ok (.iload_n 1, 1) := by decide +kernel
theorem dX2_lines_29 : decode cX2_lines 29 = .ok (.putfield 43, 3) := by decide +kernel
theorem dX2_lines_32 : decode cX2_lines 32 = .ok (.iload_n 2, 1) := by decide +kernel
theorem dX2_lines_33 : decode cX2_lines 33 = .ok (.ireturn, 1) := by decide +kernel
theorem dX2_where_0 : decode cX2_where 0 = .ok (.iconst 0, 1) := by decide +kernel
theorem dX2_where_1 : decode cX2_where 1 = .ok (.istore_n 2, 1) := by decide +kernel
theorem dX2_where_2 : decode cX2_where 2 = .ok (.iconst 0, 1) := by decide +kernel
theorem dX2_where_3 : decode cX2_where 3 = .ok (.istore_n 3, 1) := by decide +kernel
theorem dX2_where_4 : decode cX2_where 4 = .ok (.iconst 0, 1) := by decide +kernel
theorem dX2_where_5 : decode cX2_where 5 = .ok (.istore 4, 2) := by decide +kernel
theorem dX2_where_7 : decode cX2_where 7 = .ok (.iload 4, 2) := by decide +kernel
theorem dX2_where_9 : decode cX2_where 9 = .ok (.iload_n 1, 1) := by decide +kernel
theorem dX2_where_10 : decode cX2_where 10 = .ok (.if_icmp .gt 50, 3) := by decide +kernel
theorem dX2_where_13 : decode cX2_where 13 = .ok (.iload_n 3, 1) := by decide +kernel
theorem dX2_where_14 : decode cX2_where 14 = .ok (.aload_n 0, 1) := by decide +kernel
theorem dX2_where_15 : decode cX2_where 15 = .ok (.getfield 22, 3) := by decide +kernel
theorem dX2_where_18 : decode cX2_where 18 = .ok (.aload_n 0, 1) := by decide +kernel
theorem dX2_where_19 : decode cX2_where 19 = .ok (.getfield 40, 3) := by decide +kernel
theorem dX2_where_22 : decode cX2_where 22 = .ok (.iload 4, 2) := by decide +kernel
theorem dX2_where_24 : decode cX2_where 24 = .ok (.iaload, 1) := by decide +kernel
theorem dX2_where_25 : decode cX2_where 25 = .ok (.iaload, 1) := by decide +kernel
theorem dX2_where_26 : decode cX2_where 26 = .ok (.iadd, 1) := by decide +kernel
theorem dX2_where_27 : decode cX2_where 27 = .ok (.aload_n 0, 1) := by decide +kernel
theorem dX2_where_28 : decode cX2_where 28 = .ok (.getfield 43, 3) := by decide +kernel
theorem dX2_where_31 : decode cX2_where 31 = .ok (.if_icmp .le 8, 3) := by decide +kernel
theorem dX2_where_34 : decode cX2_where 34 = .ok (.iinc 2 1, 3) := by decide +kernel
theorem dX2_where_37 : decode cX2_where 37 = .ok (.iconst 0, 1) := by decide +kernel
theorem dX2_where_38 : decode cX2_where 38 = .ok (.istore_n 3, 1) := by decide +kernel
theorem dX2_where_39 : decode cX2_where 39 = .ok (.iload_n 3, 1) := by decide +kernel
theorem dX2_where_40 : decode cX2_where 40 = .ok (.aload_n 0, 1) := by decide +kernel
theorem dX2_where_41 : decode cX2_where 41 = .ok (.getfield 22, 3) := by decide +kernel
theorem dX2_where_44 : decode cX2_where 44 = .ok (.aload_n 0, 1) := by decide +kernel
theorem dX2_where_45 : decode cX2_where 45 = .ok (.getfield 40, 3) := by decide +kernel
theorem dX2_where_48 : decode cX2_where 48 = .ok (.iload 4, 2) := by decide +kernel
theorem dX2_where_50 : decode cX2_where 50 = .ok (.iaload, 1) := by decide +kernel
theorem dX2_where_51 : decode cX2_where 51 = .ok (.iaload, 1) := by decide +kernel
theorem dX2_where_52 : decode cX2_where 52 = .ok (.iadd, 1) := by decide +kernel
theorem dX2_where_53 : decode cX2_where 53 = .ok (.istore_n 3, 1) := by decide +kernel
theorem dX2_where_54 : decode cX2_where 54 = .ok (.iinc 4 1, 3) := by decide +kernel
theorem dX2_where_57 : decode cX2_where 57 = .ok (.goto (-50), 3) := by decide +kernel
theorem dX2_where_60 : decode cX2_where 60 = .ok (.bipush 100, 2) := by decide +kernel
theorem dX2_where_62 : decode cX2_where 62 = .ok (.iload_n 2, 1) := by decide +kernel
theorem dX2_where_63 : decode cX2_where 63 = .ok (.imul, 1) := by decide +kernel
theorem dX2_where_64 : decode cX2_where 64 = .ok (.iload_n 3, 1) := by decide +kernel
theorem dX2_where_65 : decode cX2_where 65 = .ok (.iadd, 1) := by decide +kernel
theorem dX2_where_66 : decode cX2_where 66 = .ok (.aload_n 0, 1) := by decide +kernel
theorem dX2_where_67 : decode cX2_where 67 = .ok (.getfield 22, 3) := by decide +kernel
theorem dX2_where_70 : decode cX2_where 70 = .ok (.aload_n 0, 1) := by decide +kernel
theorem dX2_where_71 : decode cX2_where 71 = .ok (.getfield 40, 3) := by decide +kernel
theorem dX2_where_74 : decode cX2_where 74 = .ok (.iload_n 1, 1) := by decide +kernel
theorem dX2_where_75 : decode cX2_where 75 = .ok (.iaload, 1) := by decide +kernel
theorem dX2_where_76 : decode cX2_where 76 = .ok (.iaload, 1) := by decide +kernel
theorem dX2_where_77 : decode cX2_where 77 = .ok (.isub, 1) := by decide +kernel
theorem dX2_where_78 : decode cX2_where 78 = .ok (.ireturn, 1) := by decide +kernel
set_option maxRecDepth 20000 in
theorem ggX2_pages_X2_where : GoodIn wsX2_pages wsX2_where := goodIn_r _ [7, 8, 9, 10, 11, 12, 13, 14, 15, 16, 17, 18, 19, 20, 21, 22, 23, 24, 25, 26, 27, 28, 29, 30, 31] (by decide +kernel) (by decide +kernel)
set_option maxRecDepth 20000 in
theorem gX2_pages_X2_where : GoodIn wsX2_pages (wsV RX2 131 RX2 yX2_where wsX2_where) := goodIn_app (goodIn_of _ (by decide +kernel)) ggX2_pages_X2_where
theorem dX2_pages_0 : decode cX2_pages 0 = .ok (.aload_n 0, 1) := by decide +kernel
theorem dX2_pages_1 : decode cX2_pages 1 = .ok (.iconst 0, 1) := by decide +kernel
theorem dX2_pages_2 : decode cX2_pages 2 = .ok (.putfield 59, 3) := by decide +kernel
theorem dX2_pages_5 : decode cX2_pages 5 = .ok (.aload_n 0, 1) := by decide +kernel
theorem dX2_pages_6 : decode cX2_pages 6 = .ok (.getfield 69, 3) := by decide +kernel
theorem dX2_pages_9 : decode cX2_pages 9 = .ok (.ifCond .ne 7, 3) := by decide +kernel
theorem dX2_pages_12 : decode cX2_pages 12 = .ok (.iconst 0, 1) := by decide +kernel
theorem dX2_pages_13 : decode cX2_pages 13 = .ok (.goto 18, 3) := by decide +kernel
theorem dX2_pages_16 : decode cX2_pages 16 = .ok (.aload_n 0, 1) := by decide +kernel
theorem dX2_pages_17 : decode cX2_pages 17 = .ok (.aload_n 0, 1) := by decide +kernel
theorem dX2_pages_18 : decode cX2_pages 18 = .ok (.getfield 69, 3) := by decide +kernel
theorem dX2_pages_21 : decode cX2_pages 21 = .ok (.iconst 1, 1) := by decide +kernel
theorem dX2_pages_22 : decode cX2_pages 22 = .ok (.isub, 1) := by decide +kernel
theorem dX2_pages_23 : decode cX2_pages 23 = .ok (.invokevirtual 131, 3) := by decide +kernel
theorem dX2_pages_26 : decode cX2_pages 26 = .ok (.bipush 100, 2) := by decide +kernel
theorem dX2_pages_28 : decode cX2_pages 28 = .ok (.idiv, 1) := by decide +kernel
theorem dX2_pages_29 : decode cX2_pages 29 = .ok (.iconst 1, 1) := by decide +kernel
theorem dX2_pages_30 : decode cX2_pages 30 = .ok (.iadd, 1) := by decide +kernel
theorem dX2_pages_31 : decode cX2_pages 31 = .ok (.ireturn, 1) := by decide +kernel
set_option maxRecDepth 20000 in
theorem ggX2_page_X2_noPlace : GoodIn wsX2_page wsX2_noPlace := goodIn_r _ [6, 7, 8, 9, 5, 10, 18, 19, 20, 21, 22, 23, 24, 25, 26, 27, 28, 29, 30, 31, 32, 33, 34, 35, 36, 37, 38] (by decide +kernel) (by decide +kernel)
set_option maxRecDepth 20000 in
theorem gX2_page_X2_noPlace : GoodIn wsX2_page (wsV RX2 128 RX2 yX2_noPlace wsX2_noPlace) := goodIn_app (goodIn_of _ (by decide +kernel)) ggX2_page_X2_noPlace
set_option maxRecDepth 20000 in
theorem ggX2_page_X2_where : GoodIn wsX2_page wsX2_where := goodIn_r _ [14, 15, 16, 17, 18, 19, 20, 21, 22, 23, 24, 25, 26, 27, 28, 29, 30, 31, 32, 33, 34, 35, 36, 37, 38] (by decide +kernel) (by decide +kernel)
set_option maxRecDepth 20000 in
theorem gX2_page_X2_where : GoodIn wsX2_page (wsV RX2 131 RX2 yX2_where wsX2_where) := goodIn_app (goodIn_of _ (by decide +kernel)) ggX2_page_X2_where
theorem dX2_page_0 : decode cX2_page 0 = .ok (.aload_n 0, 1) := by decide +kernel
theorem dX2_page_1 : decode cX2_page 1 = .ok (.iconst 0, 1) := by decide +kernel
theorem dX2_page_2 : decode cX2_page 2 = .ok (.putfield 59, 3) := by decide +kernel
theorem dX2_page_5 : decode cX2_page 5 = .ok (.aload_n 0, 1) := by decide +kernel
theorem dX2_page_6 : decode cX2_page 6 = .ok (.iload_n 1, 1) := by decide +kernel
theorem dX2_page_7 : decode cX2_page 7 = .ok (.invokevirtual 128, 3) := by decide +kernel
theorem dX2_page_10 : decode cX2_page 10 = .ok (.ifCond .eq 7, 3) := by decide +kernel
theorem dX2_page_13 : decode cX2_page 13 = .ok (.iconst (-1), 1) := by decide +kernel
theorem dX2_page_14 : decode cX2_page 14 = .ok (.goto 26, 3) := by decide +kernel
theorem dX2_page_17 : decode cX2_page 17 = .ok (.iload_n 2, 1) := by decide +kernel
theorem dX2_page_18 : decode cX2_page 18 = .ok (.ifCond .eq 14, 3) := by decide +kernel
theorem dX2_page_21 : decode cX2_page 21 = .ok (.aload_n 0, 1) := by decide +kernel
theorem dX2_page_22 : decode cX2_page 22 = .ok (.iload_n 1, 1) := by decide +kernel
theorem dX2_page_23 : decode cX2_page 23 = .ok (.invokevirtual 131, 3) := by decide +kernel
theorem dX2_page_26 : decode cX2_page 26 = .ok (.bipush 100, 2) := by decide +kernel
theorem dX2_page_28 : decode cX2_page 28 = .ok (.irem, 1) := by decide +kernel
theorem dX2_page_29 : decode cX2_page 29 = .ok (.goto 11, 3) := by decide +kernel
theorem dX2_page_32 : decode cX2_page 32 = .ok (.aload_n 0, 1) := by decide +kernel
theorem dX2_page_33 : decode cX2_page 33 = .ok (.iload_n 1, 1) := by decide +kernel
theorem dX2_page_34 : decode cX2_page 34 = .ok (.invokevirtual 131, 3) := by decide +kernel
theorem dX2_page_37 : decode cX2_page 37 = .ok (.bipush 100, 2) := by decide +kernel
theorem dX2_page_39 : decode cX2_page 39 = .ok (.idiv, 1) := by decide +kernel
theorem dX2_page_40 : decode cX2_page 40 = .ok (.ireturn, 1) := by decide +kernel
set_option maxRecDepth 20000 in
theorem ggX2_noSheet_X2_tell : GoodIn wsX2_noSheet wsX2_tell := goodIn_r _ [7, 8, 9, 10, 11, 12, 13, 14, 15, 6, 16, 17, 18, 19, 20, 21, 22, 23, 24, 25, 26, 27, 28, 29, 30, 31, 32, 33, 34, 35, 36, 37, 38, 39, 40, 41, 42, 43, 44, 45, 46, 47, 48, 49, 50, 51, 52, 53] (by decide +kernel) (by decide +kernel)
set_option maxRecDepth 20000 in
theorem gX2_noSheet_X2_tell : GoodIn wsX2_noSheet (wsV RX2 95 RX2 yX2_tell wsX2_tell) := goodIn_app (goodIn_of _ (by decide +kernel)) ggX2_noSheet_X2_tell
theorem dX2_noSheet_0 : decode cX2_noSheet 0 = .ok (.iconst 0, 1) := by decide +kernel
theorem dX2_noSheet_1 : decode cX2_noSheet 1 = .ok (.istore_n 1, 1) := by decide +kernel
theorem dX2_noSheet_2 : decode cX2_noSheet 2 = .ok (.iconst 0, 1) := by decide +kernel
theorem dX2_noSheet_3 : decode cX2_noSheet 3 = .ok (.istore_n 2, 1) := by decide +kernel
theorem dX2_noSheet_4 : decode cX2_noSheet 4 = .ok (.iload_n 2, 1) := by decide +kernel
theorem dX2_noSheet_5 : decode cX2_noSheet 5 = .ok (.aload_n 0, 1) := by decide +kernel
theorem dX2_noSheet_6 : decode cX2_noSheet 6 = .ok (.getfield 69, 3) := by decide +kernel
theorem dX2_noSheet_9 : decode cX2_noSheet 9 = .ok (.if_icmp .ge 32, 3) := by decide +kernel
theorem dX2_noSheet_12 : decode cX2_noSheet 12 = .ok (.iload_n 1, 1) := by decide +kernel
theorem dX2_noSheet_13 : decode cX2_noSheet 13 = .ok (.ifCond .ne 16, 3) := by decide +kernel
theorem dX2_noSheet_16 : decode cX2_noSheet 16 = .ok (.aload_n 0, 1) := by decide +kernel
theorem dX2_noSheet_17 : decode cX2_noSheet 17 = .ok (.aload_n 0, 1) := by decide +kernel
theorem dX2_noSheet_18 : decode cX2_noSheet 18 = .ok (.getfield 40, 3) := by decide +kernel
theorem dX2_noSheet_21 : decode cX2_noSheet 21 = .ok (.iload_n 2, 1) := by decide +kernel
theorem dX2_noSheet_22 : decode cX2_noSheet 22 = .ok (.iaload, 1) := by decide +kernel
theorem dX2_noSheet_23 : decode cX2_noSheet 23 = .ok (.invokevirtual 95, 3) := by decide +kernel
theorem dX2_noSheet_26 : decode cX2_noSheet 26 = .ok (.ifCond .ne 7, 3) := by decide +kernel
theorem dX2_noSheet_29 : decode cX2_noSheet 29 = .ok (.iconst 1, 1) := by decide +kernel
theorem dX2_noSheet_30 : decode cX2_noSheet 30 = .ok (.goto 4, 3) := by decide +kernel
theorem dX2_noSheet_33 : decode cX2_noSheet 33 = .ok (.iconst 0, 1) := by decide +kernel
theorem dX2_noSheet_34 : decode cX2_noSheet 34 = .ok (.istore_n 1, 1) := by decide +kernel
theorem dX2_noSheet_35 : decode cX2_noSheet 35 = .ok (.iinc 2 1, 3) := by decide +kernel
theorem dX2_noSheet_38 : decode cX2_noSheet 38 = .ok (.goto (-34), 3) := by decide +kernel
theorem dX2_noSheet_41 : decode cX2_noSheet 41 = .ok (.iload_n 1, 1) := by decide +kernel
theorem dX2_noSheet_42 : decode cX2_noSheet 42 = .ok (.ireturn, 1) := by decide +kernel
theorem dX2_ahead_0 : decode cX2_ahead 0 = .ok (.iconst 0, 1) := by decide +kernel
theorem dX2_ahead_1 : decode cX2_ahead 1 = .ok (.istore_n 3, 1) := by decide +kernel
theorem dX2_ahead_2 : decode cX2_ahead 2 = .ok (.iconst 0, 1) := by decide +kernel
theorem dX2_ahead_3 : decode cX2_ahead 3 = .ok (.istore 4, 2) := by decide +kernel
theorem dX2_ahead_5 : decode cX2_ahead 5 = .ok (.iload 4, 2) := by decide +kernel
theorem dX2_ahead_7 : decode cX2_ahead 7 = .ok (.iload_n 2, 1) := by decide +kernel
theorem dX2_ahead_8 : decode cX2_ahead 8 = .ok (.if_icmp .ge 28, 3) := by decide +kernel
theorem dX2_ahead_11 : decode cX2_ahead 11 = .ok (.iload_n 3, 1) := by decide +kernel
theorem dX2_ahead_12 : decode cX2_ahead 12 = .ok (.aload_n 0, 1) := by decide +kernel
theorem dX2_ahead_13 : decode cX2_ahead 13 = .ok (.getfield 40, 3) := by decide +kernel
theorem dX2_ahead_16 : decode cX2_ahead 16 = .ok (.iload 4, 2) := by decide +kernel
theorem dX2_ahead_18 : decode cX2_ahead 18 = .ok (.iaload, 1) := by decide +kernel
theorem dX2_ahead_19 : decode cX2_ahead 19 = .ok (.iload_n 1, 1) := by decide +kernel
theorem dX2_ahead_20 : decode cX2_ahead 20 = .ok (.if_icmp .ne 7, 3) := by decide +kernel
theorem dX2_ahead_23 : decode cX2_ahead 23 = .ok (.iconst 1, 1) := by decide +kernel
theorem dX2_ahead_24 : decode cX2_ahead 24 = .ok (.goto 4, 3) := by decide +kernel
theorem dX2_ahead_27 : decode cX2_ahead 27 = .ok (.iconst 0, 1) := by decide +kernel
theorem dX2_ahead_28 : decode cX2_ahead 28 = .ok (.iadd, 1) := by decide +kernel
theorem dX2_ahead_29 : decode cX2_ahead 29 = .ok (.istore_n 3, 1) := by decide +kernel
theorem dX2_ahead_30 : decode cX2_ahead 30 = .ok (.iinc 4 1, 3) := by decide +kernel
theorem dX2_ahead_33 : decode cX2_ahead 33 = .ok (.goto (-28), 3) := by decide +kernel
theorem dX2_ahead_36 : decode cX2_ahead 36 = .ok (.iload_n 3, 1) := by decide +kernel
theorem dX2_ahead_37 : decode cX2_ahead 37 = .ok (.ireturn, 1) := by decide +kernel
set_option maxRecDepth 20000 in
theorem ggX2_variantAt_X2_ahead : GoodIn wsX2_variantAt wsX2_ahead := goodIn_r _ [8, 1, 38, 39, 40, 41, 42, 43, 44, 45, 46, 47, 48, 49, 50, 51, 52, 53, 54, 55, 56, 57, 58] (by decide +kernel) (by decide +kernel)
set_option maxRecDepth 20000 in
theorem gX2_variantAt_X2_ahead : GoodIn wsX2_variantAt (wsV RX2 134 RX2 yX2_ahead wsX2_ahead) := goodIn_app (goodIn_of _ (by decide +kernel)) ggX2_variantAt_X2_ahead
set_option maxRecDepth 20000 in
theorem ggX2_variantAt_X2_tell : GoodIn wsX2_variantAt wsX2_tell := goodIn_r _ [12, 13, 14, 15, 16, 17, 18, 19, 20, 7, 21, 22, 23, 24, 25, 26, 27, 28, 29, 30, 31, 32, 33, 34, 35, 36, 37, 38, 39, 40, 41, 42, 43, 44, 45, 46, 47, 48, 49, 50, 51, 52, 53, 54, 55, 56, 57, 58] (by decide +kernel) (by decide +kernel)
set_option maxRecDepth 20000 in
theorem gX2_variantAt_X2_tell : GoodIn wsX2_variantAt (wsV RX2 95 RX2 yX2_tell wsX2_tell) := goodIn_app (goodIn_of _ (by decide +kernel)) ggX2_variantAt_X2_tell
theorem dX2_variantAt_0 : decode cX2_variantAt 0 = .ok (.aload_n 0, 1) := by decide +kernel
theorem dX2_variantAt_1 : decode cX2_variantAt 1 = .ok (.getfield 40, 3) := by decide +kernel
theorem dX2_variantAt_4 : decode cX2_variantAt 4 = .ok (.iload_n 2, 1) := by decide +kernel
theorem dX2_variantAt_5 : decode cX2_variantAt 5 = .ok (.iaload, 1) := by decide +kernel
theorem dX2_variantAt_6 : decode cX2_variantAt 6 = .ok (.istore_n 3, 1) := by decide +kernel
theorem dX2_variantAt_7 : decode cX2_variantAt 7 = .ok (.iload_n 1, 1) := by decide +kernel
theorem dX2_variantAt_8 : decode cX2_variantAt 8 = .ok (.aload_n 0, 1) := by decide +kernel
theorem dX2_variantAt_9 : decode cX2_variantAt 9 = .ok (.iload_n 3, 1) := by decide +kernel
theorem dX2_variantAt_10 : decode cX2_variantAt 10 = .ok (.aload_n 0, 1) := by decide +kernel
theorem dX2_variantAt_11 : decode cX2_variantAt 11 = .ok (.getfield 69, 3) := by decide +kernel
theorem dX2_variantAt_14 : decode cX2_variantAt 14 = .ok (.invokevirtual 134, 3) := by decide +kernel
theorem dX2_variantAt_17 : decode cX2_variantAt 17 = .ok (.imul, 1) := by decide +kernel
theorem dX2_variantAt_18 : decode cX2_variantAt 18 = .ok (.aload_n 0, 1) := by decide +kernel
theorem dX2_variantAt_19 : decode cX2_variantAt 19 = .ok (.iload_n 3, 1) := by decide +kernel
theorem dX2_variantAt_20 : decode cX2_variantAt 20 = .ok (.iload_n 2, 1) := by decide +kernel
theorem dX2_variantAt_21 : decode cX2_variantAt 21 = .ok (.invokevirtual 134, 3) := by decide +kernel
theorem dX2_variantAt_24 : decode cX2_variantAt 24 = .ok (.iadd, 1) := by decide +kernel
theorem dX2_variantAt_25 : decode cX2_variantAt 25 = .ok (.aload_n 0, 1) := by decide +kernel
theorem dX2_variantAt_26 : decode cX2_variantAt 26 = .ok (.getfield 25, 3) := by decide +kernel
theorem dX2_variantAt_29 : decode cX2_variantAt 29 = .ok (.iload_n 3, 1) := by decide +kernel
theorem dX2_variantAt_30 : decode cX2_variantAt 30 = .ok (.iaload, 1) := by decide +kernel
theorem dX2_variantAt_31 : decode cX2_variantAt 31 = .ok (.iadd, 1) := by decide +kernel
theorem dX2_variantAt_32 : decode cX2_variantAt 32 = .ok (.aload_n 0, 1) := by decide +kernel
theorem dX2_variantAt_33 : decode cX2_variantAt 33 = .ok (.iload_n 3, 1) := by decide +kernel
theorem dX2_variantAt_34 : decode cX2_variantAt 34 = .ok (.invokevirtual 95, 3) := by decide +kernel
theorem dX2_variantAt_37 : decode cX2_variantAt 37 = .ok (.irem, 1) := by decide +kernel
theorem dX2_variantAt_38 : decode cX2_variantAt 38 = .ok (.ireturn, 1) := by decide +kernel
set_option maxRecDepth 20000 in
theorem ggX2_noNumber_X2_in : GoodIn wsX2_noNumber wsX2_in := goodIn_r _ [5] (by decide +kernel) (by decide +kernel)
set_option maxRecDepth 20000 in
theorem gX2_noNumber_X2_in : GoodIn wsX2_noNumber (va_wsS RX2 65 yX2_in wsX2_in) := goodIn_app (goodIn_of _ (by decide +kernel)) ggX2_noNumber_X2_in
theorem dX2_noNumber_0 : decode cX2_noNumber 0 = .ok (.iload_n 0, 1) := by decide +kernel
theorem dX2_noNumber_1 : decode cX2_noNumber 1 = .ok (.i2l, 1) := by decide +kernel
theorem dX2_noNumber_2 : decode cX2_noNumber 2 = .ok (.lconst 0, 1) := by decide +kernel
theorem dX2_noNumber_3 : decode cX2_noNumber 3 = .ok (.ldc2_w 105, 3) := by decide +kernel
theorem dX2_noNumber_6 : decode cX2_noNumber 6 = .ok (.invokestatic 65, 3) := by decide +kernel
theorem dX2_noNumber_9 : decode cX2_noNumber 9 = .ok (.ifCond .ne 7, 3) := by decide +kernel
theorem dX2_noNumber_12 : decode cX2_noNumber 12 = .ok (.iconst 1, 1) := by decide +kernel
theorem dX2_noNumber_13 : decode cX2_noNumber 13 = .ok (.goto 4, 3) := by decide +kernel
theorem dX2_noNumber_16 : decode cX2_noNumber 16 = .ok (.iconst 0, 1) := by decide +kernel
theorem dX2_noNumber_17 : decode cX2_noNumber 17 = .ok (.ireturn, 1) := by decide +kernel
set_option maxRecDepth 20000 in
theorem ggX2_sheet_X2_noPlace : GoodIn wsX2_sheet wsX2_noPlace := goodIn_r _ [6, 7, 8, 9, 5, 10, 55, 56, 57, 58, 59, 60, 61, 62, 63, 64, 65, 66, 67, 68, 69, 70, 71, 72, 73, 74, 75] (by decide +kernel) (by decide +kernel)
set_option maxRecDepth 20000 in
theorem gX2_sheet_X2_noPlace : GoodIn wsX2_sheet (wsV RX2 128 RX2 yX2_noPlace wsX2_noPlace) := goodIn_app (goodIn_of _ (by decide +kernel)) ggX2_sheet_X2_noPlace
set_option maxRecDepth 20000 in
theorem ggX2_sheet_X2_noNumber : GoodIn wsX2_sheet wsX2_noNumber := goodIn_r _ [13, 14, 8, 9, 5, 10] (by decide +kernel) (by decide +kernel)
set_option maxRecDepth 20000 in
theorem gX2_sheet_X2_noNumber : GoodIn wsX2_sheet (va_wsS RX2 137 yX2_noNumber wsX2_noNumber) := goodIn_app (goodIn_of _ (by decide +kernel)) ggX2_sheet_X2_noNumber
set_option maxRecDepth 20000 in
theorem ggX2_sheet_X2_noSheet : GoodIn wsX2_sheet wsX2_noSheet := goodIn_r _ [18, 7, 19, 20, 21, 22, 5, 23, 24, 25, 26, 27, 28, 29, 30, 31, 32, 33, 34, 35, 36, 37, 8, 9, 10, 38, 39, 40, 41, 42, 43, 44, 45, 55, 56, 57, 58, 59, 60, 61, 62, 63, 64, 65, 66, 67, 68, 69, 70, 71, 72, 73, 74, 75] (by decide +kernel) (by decide +kernel)
set_option maxRecDepth 20000 in
theorem gX2_sheet_X2_noSheet : GoodIn wsX2_sheet (wsV RX2 140 RX2 yX2_noSheet wsX2_noSheet) := goodIn_app (goodIn_of _ (by decide +kernel)) ggX2_sheet_X2_noSheet
set_option maxRecDepth 20000 in
theorem ggX2_sheet_X2_variantAt : GoodIn wsX2_sheet wsX2_variantAt := goodIn_r _ [49, 19, 7, 50, 51, 52, 53, 5, 54, 20, 21, 22, 23, 24, 25, 26, 27, 28, 29, 30, 31, 32, 33, 34, 35, 36, 37, 8, 9, 10, 38, 39, 40, 41, 42, 43, 44, 45, 55, 56, 57, 58, 59, 60, 61, 62, 63, 64, 65, 66, 67, 68, 69, 70, 71, 72, 73, 74, 75] (by decide +kernel) (by decide +kernel)
set_option maxRecDepth 20000 in
theorem gX2_sheet_X2_variantAt : GoodIn wsX2_sheet (wsV RX2 144 RX2 yX2_variantAt wsX2_variantAt) := goodIn_app (goodIn_of _ (by decide +kernel)) ggX2_sheet_X2_variantAt
theorem dX2_sheet_0 : decode cX2_sheet 0 = .ok (.aload_n 0, 1) := by decide +kernel
theorem dX2_sheet_1 : decode cX2_sheet 1 = .ok (.iconst 0, 1) := by decide +kernel
theorem dX2_sheet_2 : decode cX2_sheet 2 = .ok (.putfield 59, 3) := by decide +kernel
theorem dX2_sheet_5 : decode cX2_sheet 5 = .ok (.aload_n 0, 1) := by decide +kernel
theorem dX2_sheet_6 : decode cX2_sheet 6 = .ok (.iload_n 2, 1) := by decide +kernel
theorem dX2_sheet_7 : decode cX2_sheet 7 = .ok (.invokevirtual 128, 3) := by decide +kernel
theorem dX2_sheet_10 : decode cX2_sheet 10 = .ok (.ifCond .eq 7, 3) := by decide +kernel
theorem dX2_sheet_13 : decode cX2_sheet 13 = .ok (.iconst (-1), 1) := by decide +kernel
theorem dX2_sheet_14 : decode cX2_sheet 14 = .ok (.goto 33, 3) := by decide +kernel
theorem dX2_sheet_17 : decode cX2_sheet 17 = .ok (.iload_n 1, 1) := by decide +kernel
theorem dX2_sheet_18 : decode cX2_sheet 18 = .ok (.invokestatic 137, 3) := by decide +kernel
theorem dX2_sheet_21 : decode cX2_sheet 21 = .ok (.ifCond .eq 8, 3) := by decide +kernel
theorem dX2_sheet_24 : decode cX2_sheet 24 = .ok (.bipush (-2), 2) := by decide +kernel
theorem dX2_sheet_26 : decode cX2_sheet 26 = .ok (.goto 21, 3) := by decide +kernel
theorem dX2_sheet_29 : decode cX2_sheet 29 = .ok (.aload_n 0, 1) := by decide +kernel
theorem dX2_sheet_30 : decode cX2_sheet 30 = .ok (.invokevirtual 140, 3) := by decide +kernel
theorem dX2_sheet_33 : decode cX2_sheet 33 = .ok (.ifCond .eq 8, 3) := by decide +kernel
theorem dX2_sheet_36 : decode cX2_sheet 36 = .ok (.bipush (-3), 2) := by decide +kernel
theorem dX2_sheet_38 : decode cX2_sheet 38 = .ok (.goto 9, 3) := by decide +kernel
theorem dX2_sheet_41 : decode cX2_sheet 41 = .ok (.aload_n 0, 1) := by decide +kernel
theorem dX2_sheet_42 : decode cX2_sheet 42 = .ok (.iload_n 1, 1) := by decide +kernel
theorem dX2_sheet_43 : decode cX2_sheet 43 = .ok (.iload_n 2, 1) := by decide +kernel
theorem dX2_sheet_44 : decode cX2_sheet 44 = .ok (.invokevirtual 144, 3) := by decide +kernel
theorem dX2_sheet_47 : decode cX2_sheet 47 = .ok (.ireturn, 1) := by decide +kernel
set_option maxRecDepth 20000 in
theorem ggX2_answerAt_X2_variantAt : GoodIn wsX2_answerAt wsX2_variantAt := goodIn_r _ [6, 1, 7, 8, 9, 10, 11, 5, 12, 13, 14, 15, 16, 17, 18, 19, 20, 21, 22, 23, 24, 25, 26, 27, 28, 29, 30, 31, 32, 33, 34, 35, 36, 37, 38, 39, 40, 41, 50, 51, 52, 53, 54, 55, 56, 57, 58, 59, 60, 61, 62, 63, 64, 65, 66, 67, 68, 69, 70] (by decide +kernel) (by decide +kernel)
set_option maxRecDepth 20000 in
theorem gX2_answerAt_X2_variantAt : GoodIn wsX2_answerAt (wsV RX2 144 RX2 yX2_variantAt wsX2_variantAt) := goodIn_app (goodIn_of _ (by decide +kernel)) ggX2_answerAt_X2_variantAt
set_option maxRecDepth 20000 in
theorem ggX2_answerAt_X2_rightAt : GoodIn wsX2_answerAt wsX2_rightAt := goodIn_r _ [45, 26, 46, 47, 48, 5, 49, 20, 28, 29, 30, 50, 51, 52, 53, 54, 55, 56, 57, 58, 59, 60, 61, 62, 63, 64, 65, 66, 67, 68, 69, 70] (by decide +kernel) (by decide +kernel)
set_option maxRecDepth 20000 in
theorem gX2_answerAt_X2_rightAt : GoodIn wsX2_answerAt (wsV RX2 120 RX2 yX2_rightAt wsX2_rightAt) := goodIn_app (goodIn_of _ (by decide +kernel)) ggX2_answerAt_X2_rightAt
theorem dX2_answerAt_0 : decode cX2_answerAt 0 = .ok (.aload_n 0, 1) := by decide +kernel
theorem dX2_answerAt_1 : decode cX2_answerAt 1 = .ok (.aload_n 0, 1) := by decide +kernel
theorem dX2_answerAt_2 : decode cX2_answerAt 2 = .ok (.getfield 40, 3) := by decide +kernel
theorem dX2_answerAt_5 : decode cX2_answerAt 5 = .ok (.iload_n 2, 1) := by decide +kernel
theorem dX2_answerAt_6 : decode cX2_answerAt 6 = .ok (.iaload, 1) := by decide +kernel
theorem dX2_answerAt_7 : decode cX2_answerAt 7 = .ok (.aload_n 0, 1) := by decide +kernel
theorem dX2_answerAt_8 : decode cX2_answerAt 8 = .ok (.iload_n 1, 1) := by decide +kernel
theorem dX2_answerAt_9 : decode cX2_answerAt 9 = .ok (.iload_n 2, 1) := by decide +kernel
theorem dX2_answerAt_10 : decode cX2_answerAt 10 = .ok (.invokevirtual 144, 3) := by decide +kernel
theorem dX2_answerAt_13 : decode cX2_answerAt 13 = .ok (.invokevirtual 120, 3) := by decide +kernel
theorem dX2_answerAt_16 : decode cX2_answerAt 16 = .ok (.ireturn, 1) := by decide +kernel
set_option maxRecDepth 20000 in
theorem ggX2_answer_X2_noPlace : GoodIn wsX2_answer wsX2_noPlace := goodIn_r _ [6, 7, 8, 9, 5, 10, 67, 68, 69, 70, 71, 72, 73, 74, 75, 76, 77, 78, 79, 80, 81, 82, 83, 84, 85, 86, 87] (by decide +kernel) (by decide +kernel)
set_option maxRecDepth 20000 in
theorem gX2_answer_X2_noPlace : GoodIn wsX2_answer (wsV RX2 128 RX2 yX2_noPlace wsX2_noPlace) := goodIn_app (goodIn_of _ (by decide +kernel)) ggX2_answer_X2_noPlace
set_option maxRecDepth 20000 in
theorem ggX2_answer_X2_noNumber : GoodIn wsX2_answer wsX2_noNumber := goodIn_r _ [13, 14, 8, 9, 5, 10] (by decide +kernel) (by decide +kernel)
set_option maxRecDepth 20000 in
theorem gX2_answer_X2_noNumber : GoodIn wsX2_answer (va_wsS RX2 137 yX2_noNumber wsX2_noNumber) := goodIn_app (goodIn_of _ (by decide +kernel)) ggX2_answer_X2_noNumber
set_option maxRecDepth 20000 in
theorem ggX2_answer_X2_noSheet : GoodIn wsX2_answer wsX2_noSheet := goodIn_r _ [18, 7, 19, 20, 21, 22, 5, 23, 24, 25, 26, 27, 28, 29, 30, 31, 32, 33, 34, 35, 36, 37, 8, 9, 10, 38, 39, 40, 41, 42, 43, 44, 45, 67, 68, 69, 70, 71, 72, 73, 74, 75, 76, 77, 78, 79, 80, 81, 82, 83, 84, 85, 86, 87] (by decide +kernel) (by decide +kernel)
set_option maxRecDepth 20000 in
theorem gX2_answer_X2_noSheet : GoodIn wsX2_answer (wsV RX2 140 RX2 yX2_noSheet wsX2_noSheet) := goodIn_app (goodIn_of _ (by decide +kernel)) ggX2_answer_X2_noSheet
set_option maxRecDepth 20000 in
theorem ggX2_answer_X2_answerAt : GoodIn wsX2_answer wsX2_answerAt := goodIn_r _ [49, 19, 50, 51, 52, 5, 53, 7, 54, 55, 56, 57, 58, 20, 21, 22, 23, 24, 25, 26, 27, 28, 29, 30, 31, 32, 33, 34, 35, 36, 37, 8, 9, 10, 38, 39, 40, 41, 42, 43, 44, 45, 59, 60, 61, 62, 63, 64, 65, 66, 67, 68, 69, 70, 71, 72, 73, 74, 75, 76, 77, 78, 79, 80, 81, 82, 83, 84, 85, 86, 87] (by decide +kernel) (by decide +kernel)
set_option maxRecDepth 20000 in
theorem gX2_answer_X2_answerAt : GoodIn wsX2_answer (wsV RX2 147 RX2 yX2_answerAt wsX2_answerAt) := goodIn_app (goodIn_of _ (by decide +kernel)) ggX2_answer_X2_answerAt
theorem dX2_answer_0 : decode cX2_answer 0 = .ok (.aload_n 0, 1) := by decide +kernel
theorem dX2_answer_1 : decode cX2_answer 1 = .ok (.iconst 0, 1) := by decide +kernel
theorem dX2_answer_2 : decode cX2_answer 2 = .ok (.putfield 59, 3) := by decide +kernel
theorem dX2_answer_5 : decode cX2_answer 5 = .ok (.aload_n 0, 1) := by decide +kernel
theorem dX2_answer_6 : decode cX2_answer 6 = .ok (.iload_n 2, 1) := by decide +kernel
theorem dX2_answer_7 : decode cX2_answer 7 = .ok (.invokevirtual 128, 3) := by decide +kernel
theorem dX2_answer_10 : decode cX2_answer 10 = .ok (.ifCond .eq 7, 3) := by decide +kernel
theorem dX2_answer_13 : decode cX2_answer 13 = .ok (.iconst (-1), 1) := by decide +kernel
theorem dX2_answer_14 : decode cX2_answer 14 = .ok (.goto 33, 3) := by decide +kernel
theorem dX2_answer_17 : decode cX2_answer 17 = .ok (.iload_n 1, 1) := by decide +kernel
theorem dX2_answer_18 : decode cX2_answer 18 = .ok (.invokestatic 137, 3) := by decide +kernel
theorem dX2_answer_21 : decode cX2_answer 21 = .ok (.ifCond .eq 8, 3) := by decide +kernel
theorem dX2_answer_24 : decode cX2_answer 24 = .ok (.bipush (-2), 2) := by decide +kernel
theorem dX2_answer_26 : decode cX2_answer 26 = .ok (.goto 21, 3) := by decide +kernel
theorem dX2_answer_29 : decode cX2_answer 29 = .ok (.aload_n 0, 1) := by decide +kernel
theorem dX2_answer_30 : decode cX2_answer 30 = .ok (.invokevirtual 140, 3) := by decide +kernel
theorem dX2_answer_33 : decode cX2_answer 33 = .ok (.ifCond .eq 8, 3) := by decide +kernel
theorem dX2_answer_36 : decode cX2_answer 36 = .ok (.bipush (-3), 2) := by decide +kernel
theorem dX2_answer_38 : decode cX2_answer 38 = .ok (.goto 9, 3) := by decide +kernel
theorem dX2_answer_41 : decode cX2_answer 41 = .ok (.aload_n 0, 1) := by decide +kernel
theorem dX2_answer_42 : decode cX2_answer 42 = .ok (.iload_n 1, 1) := by decide +kernel
theorem dX2_answer_43 : decode cX2_answer 43 = .ok (.iload_n 2, 1) := by decide +kernel
theorem dX2_answer_44 : decode cX2_answer 44 = .ok (.invokevirtual 147, 3) := by decide +kernel
theorem dX2_answer_47 : decode cX2_answer 47 = .ok (.ireturn, 1) := by decide +kernel
set_option maxRecDepth 20000 in
theorem ggX2_code_X2_noNumber : GoodIn wsX2_code wsX2_noNumber := goodIn_r _ [6, 7, 8, 9, 5, 10] (by decide +kernel) (by decide +kernel)
set_option maxRecDepth 20000 in
theorem gX2_code_X2_noNumber : GoodIn wsX2_code (va_wsS RX2 137 yX2_noNumber wsX2_noNumber) := goodIn_app (goodIn_of _ (by decide +kernel)) ggX2_code_X2_noNumber
set_option maxRecDepth 20000 in
theorem ggX2_code_X2_noSheet : GoodIn wsX2_code wsX2_noSheet := goodIn_r _ [14, 2, 15, 16, 17, 18, 5, 19, 20, 21, 22, 23, 24, 25, 26, 27, 28, 29, 30, 31, 32, 33, 8, 9, 10, 34, 35, 36, 37, 38, 39, 40, 41, 63, 64, 65, 66, 67, 68, 69, 70, 71, 72, 73, 74, 75, 76, 77, 78, 79, 80, 81, 82, 83] (by decide +kernel) (by decide +kernel)
set_option maxRecDepth 20000 in
theorem gX2_code_X2_noSheet : GoodIn wsX2_code (wsV RX2 140 RX2 yX2_noSheet wsX2_noSheet) := goodIn_app (goodIn_of _ (by decide +kernel)) ggX2_code_X2_noSheet
set_option maxRecDepth 20000 in
theorem ggX2_code_X2_answerAt : GoodIn wsX2_code wsX2_answerAt := goodIn_r _ [45, 15, 46, 47, 48, 5, 49, 2, 50, 51, 52, 53, 54, 16, 17, 18, 19, 20, 21, 22, 23, 24, 25, 26, 27, 28, 29, 30, 31, 32, 33, 8, 9, 10, 34, 35, 36, 37, 38, 39, 40, 41, 55, 56, 57, 58, 59, 60, 61, 62, 63, 64, 65, 66, 67, 68, 69, 70, 71, 72, 73, 74, 75, 76, 77, 78, 79, 80, 81, 82, 83] (by decide +kernel) (by decide +kernel)
set_option maxRecDepth 20000 in
theorem gX2_code_X2_answerAt : GoodIn wsX2_code (wsV RX2 147 RX2 yX2_answerAt wsX2_answerAt) := goodIn_app (goodIn_of _ (by decide +kernel)) ggX2_code_X2_answerAt
theorem dX2_code_0 : decode cX2_code 0 = .ok (.aload_n 0, 1) := by decide +kernel
theorem dX2_code_1 : decode cX2_code 1 = .ok (.iconst 0, 1) := by decide +kernel
theorem dX2_code_2 : decode cX2_code 2 = .ok (.putfield 59, 3) := by decide +kernel
theorem dX2_code_5 : decode cX2_code 5 = .ok (.iload_n 1, 1) := by decide +kernel
theorem dX2_code_6 : decode cX2_code 6 = .ok (.invokestatic 137, 3) := by decide +kernel
theorem dX2_code_9 : decode cX2_code 9 = .ok (.ifCond .eq 6, 3) := by decide +kernel
theorem dX2_code_12 : decode cX2_code 12 = .ok (.bipush (-2), 2) := by decide +kernel
theorem dX2_code_14 : decode cX2_code 14 = .ok (.ireturn, 1) := by decide +kernel
theorem dX2_code_15 : decode cX2_code 15 = .ok (.aload_n 0, 1) := by decide +kernel
theorem dX2_code_16 : decode cX2_code 16 = .ok (.invokevirtual 140, 3) := by decide +kernel
theorem dX2_code_19 : decode cX2_code 19 = .ok (.ifCond .eq 6, 3) := by decide +kernel
theorem dX2_code_22 : decode cX2_code 22 = .ok (.bipush (-3), 2) := by decide +kernel
theorem dX2_code_24 : decode cX2_code 24 = .ok (.ireturn, 1) := by decide +kernel
theorem dX2_code_25 : decode cX2_code 25 = .ok (.iconst 0, 1) := by decide +kernel
theorem dX2_code_26 : decode cX2_code 26 = .ok (.istore_n 2, 1) := by decide +kernel
theorem dX2_code_27 : decode cX2_code 27 = .ok (.iconst 0, 1) := by decide +kernel
theorem dX2_code_28 : decode cX2_code 28 = .ok (.istore_n 3, 1) := by decide +kernel
