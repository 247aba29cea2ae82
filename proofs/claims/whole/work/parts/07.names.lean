theorem dX2_code_29 : decode cX2_code 29 = .ok (.iload_n 3, 1) := by decide +kernel
theorem dX2_code_30 : decode cX2_code 30 = .ok (.aload_n 0, 1) := by decide +kernel
theorem dX2_code_31 : decode cX2_code 31 = .ok (.getfield 69, 3) := by decide +kernel
theorem dX2_code_34 : decode cX2_code 34 = .ok (.if_icmp .ge 22, 3) := by decide +kernel
theorem dX2_code_37 : decode cX2_code 37 = .ok (.iload_n 2, 1) := by decide +kernel
theorem dX2_code_38 : decode cX2_code 38 = .ok (.aload_n 0, 1) := by decide +kernel
theorem dX2_code_39 : decode cX2_code 39 = .ok (.iload_n 1, 1) := by decide +kernel
theorem dX2_code_40 : decode cX2_code 40 = .ok (.iload_n 3, 1) := by decide +kernel
theorem dX2_code_41 : decode cX2_code 41 = .ok (.invokevirtual 147, 3) := by decide +kernel
theorem dX2_code_44 : decode cX2_code 44 = .ok (.iload_n 3, 1) := by decide +kernel
theorem dX2_code_45 : decode cX2_code 45 = .ok (.iconst 1, 1) := by decide +kernel
theorem dX2_code_46 : decode cX2_code 46 = .ok (.iadd, 1) := by decide +kernel
theorem dX2_code_47 : decode cX2_code 47 = .ok (.imul, 1) := by decide +kernel
theorem dX2_code_48 : decode cX2_code 48 = .ok (.iadd, 1) := by decide +kernel
theorem dX2_code_49 : decode cX2_code 49 = .ok (.istore_n 2, 1) := by decide +kernel
theorem dX2_code_50 : decode cX2_code 50 = .ok (.iinc 3 1, 3) := by decide +kernel
theorem dX2_code_53 : decode cX2_code 53 = .ok (.goto (-24), 3) := by decide +kernel
theorem dX2_code_56 : decode cX2_code 56 = .ok (.iload_n 2, 1) := by decide +kernel
theorem dX2_code_57 : decode cX2_code 57 = .ok (.bipush 97, 2) := by decide +kernel
theorem dX2_code_59 : decode cX2_code 59 = .ok (.irem, 1) := by decide +kernel
theorem dX2_code_60 : decode cX2_code 60 = .ok (.ireturn, 1) := by decide +kernel
set_option maxRecDepth 20000 in
theorem ggX2_shared_X2_noNumber : GoodIn wsX2_shared wsX2_noNumber := goodIn_r _ [7, 8, 9, 10, 6, 11] (by decide +kernel) (by decide +kernel)
set_option maxRecDepth 20000 in
theorem gX2_shared_X2_noNumber : GoodIn wsX2_shared (va_wsS RX2 137 yX2_noNumber wsX2_noNumber) := goodIn_app (goodIn_of _ (by decide +kernel)) ggX2_shared_X2_noNumber
set_option maxRecDepth 20000 in
theorem ggX2_shared_X2_noSheet : GoodIn wsX2_shared wsX2_noSheet := goodIn_r _ [15, 2, 3, 16, 17, 18, 6, 19, 20, 21, 22, 23, 24, 25, 26, 27, 28, 29, 30, 31, 32, 33, 9, 10, 11, 34, 35, 36, 37, 38, 39, 40, 41, 51, 52, 53, 54, 55, 56, 57, 58, 59, 60, 61, 62, 63, 64, 65, 66, 67, 68, 69, 70, 71] (by decide +kernel) (by decide +kernel)
set_option maxRecDepth 20000 in
theorem gX2_shared_X2_noSheet : GoodIn wsX2_shared (wsV RX2 140 RX2 yX2_noSheet wsX2_noSheet) := goodIn_app (goodIn_of _ (by decide +kernel)) ggX2_shared_X2_noSheet
set_option maxRecDepth 20000 in
theorem ggX2_shared_X2_variantAt : GoodIn wsX2_shared wsX2_variantAt := goodIn_r _ [45, 3, 2, 46, 47, 48, 49, 6, 50, 16, 17, 18, 19, 20, 21, 22, 23, 24, 25, 26, 27, 28, 29, 30, 31, 32, 33, 9, 10, 11, 34, 35, 36, 37, 38, 39, 40, 41, 51, 52, 53, 54, 55, 56, 57, 58, 59, 60, 61, 62, 63, 64, 65, 66, 67, 68, 69, 70, 71] (by decide +kernel) (by decide +kernel)
set_option maxRecDepth 20000 in
theorem gX2_shared_X2_variantAt : GoodIn wsX2_shared (wsV RX2 144 RX2 yX2_variantAt wsX2_variantAt) := goodIn_app (goodIn_of _ (by decide +kernel)) ggX2_shared_X2_variantAt
theorem dX2_shared_0 : decode cX2_shared 0 = .ok (.aload_n 0, 1) := by decide +kernel
theorem dX2_shared_1 : decode cX2_shared 1 = .ok (.iconst 0, 1) := by decide +kernel
theorem dX2_shared_2 : decode cX2_shared 2 = .ok (.putfield 59, 3) := by decide +kernel
theorem dX2_shared_5 : decode cX2_shared 5 = .ok (.iload_n 1, 1) := by decide +kernel
theorem dX2_shared_6 : decode cX2_shared 6 = .ok (.invokestatic 137, 3) := by decide +kernel
theorem dX2_shared_9 : decode cX2_shared 9 = .ok (.ifCond .ne 10, 3) := by decide +kernel
theorem dX2_shared_12 : decode cX2_shared 12 = .ok (.iload_n 2, 1) := by decide +kernel
theorem dX2_shared_13 : decode cX2_shared 13 = .ok (.invokestatic 137, 3) := by decide +kernel
theorem dX2_shared_16 : decode cX2_shared 16 = .ok (.ifCond .eq 6, 3) := by decide +kernel
theorem dX2_shared_19 : decode cX2_shared 19 = .ok (.bipush (-2), 2) := by decide +kernel
theorem dX2_shared_21 : decode cX2_shared 21 = .ok (.ireturn, 1) := by decide +kernel
theorem dX2_shared_22 : decode cX2_shared 22 = .ok (.aload_n 0, 1) := by decide +kernel
theorem dX2_shared_23 : decode cX2_shared 23 = .ok (.invokevirtual 140, 3) := by decide +kernel
theorem dX2_shared_26 : decode cX2_shared 26 = .ok (.ifCond .eq 6, 3) := by decide +kernel
theorem dX2_shared_29 : decode cX2_shared 29 = .ok (.bipush (-3), 2) := by decide +kernel
theorem dX2_shared_31 : decode cX2_shared 31 = .ok (.ireturn, 1) := by decide +kernel
theorem dX2_shared_32 : decode cX2_shared 32 = .ok (.iconst 0, 1) := by decide +kernel
theorem dX2_shared_33 : decode cX2_shared 33 = .ok (.istore_n 3, 1) := by decide +kernel
theorem dX2_shared_34 : decode cX2_shared 34 = .ok (.iconst 0, 1) := by decide +kernel
theorem dX2_shared_35 : decode cX2_shared 35 = .ok (.istore 4, 2) := by decide +kernel
theorem dX2_shared_37 : decode cX2_shared 37 = .ok (.iload 4, 2) := by decide +kernel
theorem dX2_shared_39 : decode cX2_shared 39 = .ok (.aload_n 0, 1) := by decide +kernel
theorem dX2_shared_40 : decode cX2_shared 40 = .ok (.getfield 69, 3) := by decide +kernel
theorem dX2_shared_43 : decode cX2_shared 43 = .ok (.if_icmp .ge 89, 3) := by decide +kernel
theorem dX2_shared_46 : decode cX2_shared 46 = .ok (.iconst 0, 1) := by decide +kernel
theorem dX2_shared_47 : decode cX2_shared 47 = .ok (.istore 5, 2) := by decide +kernel
theorem dX2_shared_49 : decode cX2_shared 49 = .ok (.iconst 0, 1) := by decide +kernel
theorem dX2_shared_50 : decode cX2_shared 50 = .ok (.istore 6, 2) := by decide +kernel
theorem dX2_shared_52 : decode cX2_shared 52 = .ok (.iload 6, 2) := by decide +kernel
theorem dX2_shared_54 : decode cX2_shared 54 = .ok (.aload_n 0, 1) := by decide +kernel
theorem dX2_shared_55 : decode cX2_shared 55 = .ok (.getfield 69, 3) := by decide +kernel
theorem dX2_shared_58 : decode cX2_shared 58 = .ok (.if_icmp .ge 55, 3) := by decide +kernel
theorem dX2_shared_61 : decode cX2_shared 61 = .ok (.iload 5, 2) := by decide +kernel
theorem dX2_shared_63 : decode cX2_shared 63 = .ok (.ifCond .ne 50, 3) := by decide +kernel
theorem dX2_shared_66 : decode cX2_shared 66 = .ok (.aload_n 0, 1) := by decide +kernel
theorem dX2_shared_67 : decode cX2_shared 67 = .ok (.getfield 40, 3) := by decide +kernel
theorem dX2_shared_70 : decode cX2_shared 70 = .ok (.iload 6, 2) := by decide +kernel
theorem dX2_shared_72 : decode cX2_shared 72 = .ok (.iaload, 1) := by decide +kernel
theorem dX2_shared_73 : decode cX2_shared 73 = .ok (.aload_n 0, 1) := by decide +kernel
theorem dX2_shared_74 : decode cX2_shared 74 = .ok (.getfield 40, 3) := by decide +kernel
theorem dX2_shared_77 : decode cX2_shared 77 = .ok (.iload 4, 2) := by decide +kernel
theorem dX2_shared_79 : decode cX2_shared 79 = .ok (.iaload, 1) := by decide +kernel
theorem dX2_shared_80 : decode cX2_shared 80 = .ok (.if_icmp .ne 24, 3) := by decide +kernel
theorem dX2_shared_83 : decode cX2_shared 83 = .ok (.aload_n 0, 1) := by decide +kernel
theorem dX2_shared_84 : decode cX2_shared 84 = .ok (.iload_n 2, 1) := by decide +kernel
theorem dX2_shared_85 : decode cX2_shared 85 = .ok (.iload 6, 2) := by decide +kernel
theorem dX2_shared_87 : decode cX2_shared 87 = .ok (.invokevirtual 144, 3) := by decide +kernel
theorem dX2_shared_90 : decode cX2_shared 90 = .ok (.aload_n 0, 1) := by decide +kernel
theorem dX2_shared_91 : decode cX2_shared 91 = .ok (.iload_n 1, 1) := by decide +kernel
theorem dX2_shared_92 : decode cX2_shared 92 = .ok (.iload 4, 2) := by decide +kernel
theorem dX2_shared_94 : decode cX2_shared 94 = .ok (.invokevirtual 144, 3) := by decide +kernel
theorem dX2_shared_97 : decode cX2_shared 97 = .ok (.if_icmp .ne 7, 3) := by decide +kernel
theorem dX2_shared_100 : decode cX2_shared 100 = .ok (.iconst 1, 1) := by decide +kernel
theorem dX2_shared_101 : decode cX2_shared 101 = .ok (.goto 4, 3) := by decide +kernel
theorem dX2_shared_104 : decode cX2_shared 104 = .ok (.iconst 0, 1) := by decide +kernel
theorem dX2_shared_105 : decode cX2_shared 105 = .ok (.istore 5, 2) := by decide +kernel
theorem dX2_shared_107 : decode cX2_shared 107 = .ok (.iinc 6 1, 3) := by decide +kernel
theorem dX2_shared_110 : decode cX2_shared 110 = .ok (.goto (-58), 3) := by decide +kernel
theorem dX2_shared_113 : decode cX2_shared 113 = .ok (.iload_n 3, 1) := by decide +kernel
theorem dX2_shared_114 : decode cX2_shared 114 = .ok (.iload 5, 2) := by decide +kernel
theorem dX2_shared_116 : decode cX2_shared 116 = .ok (.ifCond .eq 7, 3) := by decide +kernel
theorem dX2_shared_119 : decode cX2_shared 119 = .ok (.iconst 1, 1) := by decide +kernel
theorem dX2_shared_120 : decode cX2_shared 120 = .ok (.goto 4, 3) := by decide +kernel
theorem dX2_shared_123 : decode cX2_shared 123 = .ok (.iconst 0, 1) := by decide +kernel
theorem dX2_shared_124 : decode cX2_shared 124 = .ok (.iadd, 1) := by decide +kernel
theorem dX2_shared_125 : decode cX2_shared 125 = .ok (.istore_n 3, 1) := by decide +kernel
theorem dX2_shared_126 : decode cX2_shared 126 = .ok (.iinc 4 1, 3) := by decide +kernel
theorem dX2_shared_129 : decode cX2_shared 129 = .ok (.goto (-92), 3) := by decide +kernel
theorem dX2_shared_132 : decode cX2_shared 132 = .ok (.iload_n 3, 1) := by decide +kernel
theorem dX2_shared_133 : decode cX2_shared 133 = .ok (.ireturn, 1) := by decide +kernel
set_option maxRecDepth 20000 in
theorem ggX2_isApart_X2_ahead : GoodIn wsX2_isApart wsX2_ahead := goodIn_r _ [7, 8, 38, 39, 40, 41, 42, 43, 44, 45, 46, 47, 48, 49, 50, 51, 52, 53, 54, 55, 56, 57, 58] (by decide +kernel) (by decide +kernel)
set_option maxRecDepth 20000 in
theorem gX2_isApart_X2_ahead : GoodIn wsX2_isApart (wsV RX2 134 RX2 yX2_ahead wsX2_ahead) := goodIn_app (goodIn_of _ (by decide +kernel)) ggX2_isApart_X2_ahead
set_option maxRecDepth 20000 in
theorem ggX2_isApart_X2_tell : GoodIn wsX2_isApart wsX2_tell := goodIn_r _ [12, 13, 14, 15, 16, 17, 18, 19, 20, 6, 21, 22, 23, 24, 25, 26, 27, 28, 29, 30, 31, 32, 33, 34, 35, 36, 37, 38, 39, 40, 41, 42, 43, 44, 45, 46, 47, 48, 49, 50, 51, 52, 53, 54, 55, 56, 57, 58] (by decide +kernel) (by decide +kernel)
set_option maxRecDepth 20000 in
theorem gX2_isApart_X2_tell : GoodIn wsX2_isApart (wsV RX2 95 RX2 yX2_tell wsX2_tell) := goodIn_app (goodIn_of _ (by decide +kernel)) ggX2_isApart_X2_tell
theorem dX2_isApart_0 : decode cX2_isApart 0 = .ok (.iconst 1, 1) := by decide +kernel
theorem dX2_isApart_1 : decode cX2_isApart 1 = .ok (.istore_n 3, 1) := by decide +kernel
theorem dX2_isApart_2 : decode cX2_isApart 2 = .ok (.iconst 0, 1) := by decide +kernel
theorem dX2_isApart_3 : decode cX2_isApart 3 = .ok (.istore 4, 2) := by decide +kernel
theorem dX2_isApart_5 : decode cX2_isApart 5 = .ok (.iload 4, 2) := by decide +kernel
theorem dX2_isApart_7 : decode cX2_isApart 7 = .ok (.aload_n 0, 1) := by decide +kernel
theorem dX2_isApart_8 : decode cX2_isApart 8 = .ok (.getfield 62, 3) := by decide +kernel
theorem dX2_isApart_11 : decode cX2_isApart 11 = .ok (.if_icmp .ge 72, 3) := by decide +kernel
theorem dX2_isApart_14 : decode cX2_isApart 14 = .ok (.iload_n 3, 1) := by decide +kernel
theorem dX2_isApart_15 : decode cX2_isApart 15 = .ok (.ifCond .eq 68, 3) := by decide +kernel
theorem dX2_isApart_18 : decode cX2_isApart 18 = .ok (.aload_n 0, 1) := by decide +kernel
theorem dX2_isApart_19 : decode cX2_isApart 19 = .ok (.iload 4, 2) := by decide +kernel
theorem dX2_isApart_21 : decode cX2_isApart 21 = .ok (.aload_n 0, 1) := by decide +kernel
theorem dX2_isApart_22 : decode cX2_isApart 22 = .ok (.getfield 69, 3) := by decide +kernel
theorem dX2_isApart_25 : decode cX2_isApart 25 = .ok (.invokevirtual 134, 3) := by decide +kernel
theorem dX2_isApart_28 : decode cX2_isApart 28 = .ok (.istore 5, 2) := by decide +kernel
theorem dX2_isApart_30 : decode cX2_isApart 30 = .ok (.iload 5, 2) := by decide +kernel
theorem dX2_isApart_32 : decode cX2_isApart 32 = .ok (.ifCond .le 45, 3) := by decide +kernel
theorem dX2_isApart_35 : decode cX2_isApart 35 = .ok (.aload_n 0, 1) := by decide +kernel
theorem dX2_isApart_36 : decode cX2_isApart 36 = .ok (.iload 4, 2) := by decide +kernel
theorem dX2_isApart_38 : decode cX2_isApart 38 = .ok (.invokevirtual 95, 3) := by decide +kernel
theorem dX2_isApart_41 : decode cX2_isApart 41 = .ok (.istore 6, 2) := by decide +kernel
theorem dX2_isApart_43 : decode cX2_isApart 43 = .ok (.iload_n 2, 1) := by decide +kernel
theorem dX2_isApart_44 : decode cX2_isApart 44 = .ok (.iload_n 1, 1) := by decide +kernel
theorem dX2_isApart_45 : decode cX2_isApart 45 = .ok (.isub, 1) := by decide +kernel
theorem dX2_isApart_46 : decode cX2_isApart 46 = .ok (.iload 5, 2) := by decide +kernel
theorem dX2_isApart_48 : decode cX2_isApart 48 = .ok (.imul, 1) := by decide +kernel
theorem dX2_isApart_49 : decode cX2_isApart 49 = .ok (.iload 6, 2) := by decide +kernel
theorem dX2_isApart_51 : decode cX2_isApart 51 = .ok (.irem, 1) := by decide +kernel
theorem dX2_isApart_52 : decode cX2_isApart 52 = .ok (.istore 7, 2) := by decide +kernel
theorem dX2_isApart_54 : decode cX2_isApart 54 = .ok (.iload 7, 2) := by decide +kernel
theorem dX2_isApart_56 : decode cX2_isApart 56 = .ok (.iload 5, 2) := by decide +kernel
theorem dX2_isApart_58 : decode cX2_isApart 58 = .ok (.if_icmp .lt 17, 3) := by decide +kernel
theorem dX2_isApart_61 : decode cX2_isApart 61 = .ok (.iload 6, 2) := by decide +kernel
theorem dX2_isApart_63 : decode cX2_isApart 63 = .ok (.iload 7, 2) := by decide +kernel
theorem dX2_isApart_65 : decode cX2_isApart 65 = .ok (.isub, 1) := by decide +kernel
theorem dX2_isApart_66 : decode cX2_isApart 66 = .ok (.iload 5, 2) := by decide +kernel
theorem dX2_isApart_68 : decode cX2_isApart 68 = .ok (.if_icmp .lt 7, 3) := by decide +kernel
theorem dX2_isApart_71 : decode cX2_isApart 71 = .ok (.iconst 1, 1) := by decide +kernel
theorem dX2_isApart_72 : decode cX2_isApart 72 = .ok (.goto 4, 3) := by decide +kernel
theorem dX2_isApart_75 : decode cX2_isApart 75 = .ok (.iconst 0, 1) := by decide +kernel
theorem dX2_isApart_76 : decode cX2_isApart 76 = .ok (.istore_n 3, 1) := by decide +kernel
theorem dX2_isApart_77 : decode cX2_isApart 77 = .ok (.iinc 4 1, 3) := by decide +kernel
theorem dX2_isApart_80 : decode cX2_isApart 80 = .ok (.goto (-75), 3) := by decide +kernel
theorem dX2_isApart_83 : decode cX2_isApart 83 = .ok (.iload_n 3, 1) := by decide +kernel
theorem dX2_isApart_84 : decode cX2_isApart 84 = .ok (.ireturn, 1) := by decide +kernel
set_option maxRecDepth 20000 in
theorem ggX2_apart_X2_noNumber : GoodIn wsX2_apart wsX2_noNumber := goodIn_r _ [5, 6, 7, 8, 4, 9] (by decide +kernel) (by decide +kernel)
set_option maxRecDepth 20000 in
theorem gX2_apart_X2_noNumber : GoodIn wsX2_apart (va_wsS RX2 137 yX2_noNumber wsX2_noNumber) := goodIn_app (goodIn_of _ (by decide +kernel)) ggX2_apart_X2_noNumber
set_option maxRecDepth 20000 in
theorem ggX2_apart_X2_noSheet : GoodIn wsX2_apart wsX2_noSheet := goodIn_r _ [13, 14, 15, 16, 17, 18, 4, 19, 20, 21, 22, 23, 24, 25, 26, 27, 28, 29, 30, 31, 32, 33, 7, 8, 9, 34, 35, 36, 37, 38, 39, 40, 41, 51, 52, 53, 54, 55, 56, 57, 58, 59, 60, 61, 62, 63, 64, 65, 66, 67, 68, 69, 70, 71] (by decide +kernel) (by decide +kernel)
set_option maxRecDepth 20000 in
theorem gX2_apart_X2_noSheet : GoodIn wsX2_apart (wsV RX2 140 RX2 yX2_noSheet wsX2_noSheet) := goodIn_app (goodIn_of _ (by decide +kernel)) ggX2_apart_X2_noSheet
set_option maxRecDepth 20000 in
theorem ggX2_apart_X2_isApart : GoodIn wsX2_apart wsX2_isApart := goodIn_r _ [45, 46, 14, 47, 48, 49, 4, 50, 15, 16, 17, 18, 19, 20, 21, 22, 23, 24, 25, 26, 27, 28, 29, 30, 31, 32, 33, 7, 8, 9, 34, 35, 36, 37, 38, 39, 40, 41, 51, 52, 53, 54, 55, 56, 57, 58, 59, 60, 61, 62, 63, 64, 65, 66, 67, 68, 69, 70, 71] (by decide +kernel) (by decide +kernel)
set_option maxRecDepth 20000 in
theorem gX2_apart_X2_isApart : GoodIn wsX2_apart (wsV RX2 150 RX2 yX2_isApart wsX2_isApart) := goodIn_app (goodIn_of _ (by decide +kernel)) ggX2_apart_X2_isApart
theorem dX2_apart_0 : decode cX2_apart 0 = .ok (.aload_n 0, 1) := by decide +kernel
theorem dX2_apart_1 : decode cX2_apart 1 = .ok (.iconst 0, 1) := by decide +kernel
theorem dX2_apart_2 : decode cX2_apart 2 = .ok (.putfield 59, 3) := by decide +kernel
theorem dX2_apart_5 : decode cX2_apart 5 = .ok (.iload_n 1, 1) := by decide +kernel
theorem dX2_apart_6 : decode cX2_apart 6 = .ok (.invokestatic 137, 3) := by decide +kernel
theorem dX2_apart_9 : decode cX2_apart 9 = .ok (.ifCond .eq 6, 3) := by decide +kernel
theorem dX2_apart_12 : decode cX2_apart 12 = .ok (.bipush (-2), 2) := by decide +kernel
theorem dX2_apart_14 : decode cX2_apart 14 = .ok (.ireturn, 1) := by decide +kernel
theorem dX2_apart_15 : decode cX2_apart 15 = .ok (.aload_n 0, 1) := by decide +kernel
theorem dX2_apart_16 : decode cX2_apart 16 = .ok (.invokevirtual 140, 3) := by decide +kernel
theorem dX2_apart_19 : decode cX2_apart 19 = .ok (.ifCond .eq 6, 3) := by decide +kernel
theorem dX2_apart_22 : decode cX2_apart 22 = .ok (.bipush (-3), 2) := by decide +kernel
theorem dX2_apart_24 : decode cX2_apart 24 = .ok (.ireturn, 1) := by decide +kernel
theorem dX2_apart_25 : decode cX2_apart 25 = .ok (.iload_n 1, 1) := by decide +kernel
theorem dX2_apart_26 : decode cX2_apart 26 = .ok (.iconst 1, 1) := by decide +kernel
theorem dX2_apart_27 : decode cX2_apart 27 = .ok (.iadd, 1) := by decide +kernel
theorem dX2_apart_28 : decode cX2_apart 28 = .ok (.istore_n 2, 1) := by decide +kernel
theorem dX2_apart_29 : decode cX2_apart 29 = .ok (.iload_n 2, 1) := by decide +kernel
theorem dX2_apart_30 : decode cX2_apart 30 = .ok (.sipush 10000, 3) := by decide +kernel
theorem dX2_apart_33 : decode cX2_apart 33 = .ok (.if_icmp .ge 20, 3) := by decide +kernel
theorem dX2_apart_36 : decode cX2_apart 36 = .ok (.aload_n 0, 1) := by decide +kernel
theorem dX2_apart_37 : decode cX2_apart 37 = .ok (.iload_n 1, 1) := by decide +kernel
theorem dX2_apart_38 : decode cX2_apart 38 = .ok (.iload_n 2, 1) := by decide +kernel
theorem dX2_apart_39 : decode cX2_apart 39 = .ok (.invokevirtual 150, 3) := by decide +kernel
theorem dX2_apart_42 : decode cX2_apart 42 = .ok (.ifCond .eq 5, 3) := by decide +kernel
theorem dX2_apart_45 : decode cX2_apart 45 = .ok (.iload_n 2, 1) := by decide +kernel
theorem dX2_apart_46 : decode cX2_apart 46 = .ok (.ireturn, 1) := by decide +kernel
theorem dX2_apart_47 : decode cX2_apart 47 = .ok (.iinc 2 1, 3) := by decide +kernel
theorem dX2_apart_50 : decode cX2_apart 50 = .ok (.goto (-21), 3) := by decide +kernel
theorem dX2_apart_53 : decode cX2_apart 53 = .ok (.bipush (-9), 2) := by decide +kernel
theorem dX2_apart_55 : decode cX2_apart 55 = .ok (.ireturn, 1) := by decide +kernel
set_option maxRecDepth 20000 in
theorem ggX2_seats_X2_in : GoodIn wsX2_seats wsX2_in := goodIn_r _ [9] (by decide +kernel) (by decide +kernel)
set_option maxRecDepth 20000 in
theorem gX2_seats_X2_in : GoodIn wsX2_seats (va_wsS RX2 65 yX2_in wsX2_in) := goodIn_app (goodIn_of _ (by decide +kernel)) ggX2_seats_X2_in
theorem dX2_seats_0 : decode cX2_seats 0 = .ok (.aload_n 0, 1) := by decide +kernel
theorem dX2_seats_1 : decode cX2_seats 1 = .ok (.iconst 0, 1) := by decide +kernel
theorem dX2_seats_2 : decode cX2_seats 2 = .ok (.putfield 59, 3) := by decide +kernel
theorem dX2_seats_5 : decode cX2_seats 5 = .ok (.iload_n 1, 1) := by decide +kernel
theorem dX2_seats_6 : decode cX2_seats 6 = .ok (.i2l, 1) := by decide +kernel
theorem dX2_seats_7 : decode cX2_seats 7 = .ok (.lconst 1, 1) := by decide +kernel
theorem dX2_seats_8 : decode cX2_seats 8 = .ok (.ldc2_w 153, 3) := by decide +kernel
theorem dX2_seats_11 : decode cX2_seats 11 = .ok (.invokestatic 65, 3) := by decide +kernel
theorem dX2_seats_14 : decode cX2_seats 14 = .ok (.ifCond .eq 15, 3) := by decide +kernel
theorem dX2_seats_17 : decode cX2_seats 17 = .ok (.iload_n 2, 1) := by decide +kernel
theorem dX2_seats_18 : decode cX2_seats 18 = .ok (.i2l, 1) := by decide +kernel
theorem dX2_seats_19 : decode cX2_seats 19 = .ok (.lconst 1, 1) := by decide +kernel
theorem dX2_seats_20 : decode cX2_seats 20 = .ok (.ldc2_w 153, 3) := by decide +kernel
theorem dX2_seats_23 : decode cX2_seats 23 = .ok (.invokestatic 65, 3) := by decide +kernel
theorem dX2_seats_26 : decode cX2_seats 26 = .ok (.ifCond .ne 6, 3) := by decide +kernel
theorem dX2_seats_29 : decode cX2_seats 29 = .ok (.bipush (-2), 2) := by decide +kernel
theorem dX2_seats_31 : decode cX2_seats 31 = .ok (.ireturn, 1) := by decide +kernel
theorem dX2_seats_32 : decode cX2_seats 32 = .ok (.aload_n 0, 1) := by decide +kernel
theorem dX2_seats_33 : decode cX2_seats 33 = .ok (.getfield 47, 3) := by decide +kernel
theorem dX2_seats_36 : decode cX2_seats 36 = .ok (.aload_n 0, 1) := by decide +kernel
theorem dX2_seats_37 : decode cX2_seats 37 = .ok (.getfield 50, 3) := by decide +kernel
theorem dX2_seats_40 : decode cX2_seats 40 = .ok (.imul, 1) := by decide +kernel
theorem dX2_seats_41 : decode cX2_seats 41 = .ok (.istore_n 3, 1) := by decide +kernel
theorem dX2_seats_42 : decode cX2_seats 42 = .ok (.aload_n 0, 1) := by decide +kernel
theorem dX2_seats_43 : decode cX2_seats 43 = .ok (.iload_n 1, 1) := by decide +kernel
theorem dX2_seats_44 : decode cX2_seats 44 = .ok (.putfield 47, 3) := by decide +kernel
theorem dX2_seats_47 : decode cX2_seats 47 = .ok (.aload_n 0, 1) := by decide +kernel
theorem dX2_seats_48 : decode cX2_seats 48 = .ok (.iload_n 2, 1) := by decide +kernel
theorem dX2_seats_49 : decode cX2_seats 49 = .ok (.putfield 50, 3) := by decide +kernel
theorem dX2_seats_52 : decode cX2_seats 52 = .ok (.iconst 0, 1) := by decide +kernel
theorem dX2_seats_53 : decode cX2_seats 53 = .ok (.istore 4, 2) := by decide +kernel
theorem dX2_seats_55 : decode cX2_seats 55 = .ok (.iload 4, 2) := by decide +kernel
theorem dX2_seats_57 : decode cX2_seats 57 = .ok (.sipush 512, 3) := by decide +kernel
theorem dX2_seats_60 : decode cX2_seats 60 = .ok (.if_icmp .ge 17, 3) := by decide +kernel
theorem dX2_seats_63 : decode cX2_seats 63 = .ok (.aload_n 0, 1) := by decide +kernel
theorem dX2_seats_64 : decode cX2_seats 64 = .ok (.getfield 56, 3) := by decide +kernel
theorem dX2_seats_67 : decode cX2_seats 67 = .ok (.iload 4, 2) := by decide +kernel
theorem dX2_seats_69 : decode cX2_seats 69 = .ok (.iconst 0, 1) := by decide +kernel
theorem dX2_seats_70 : decode cX2_seats 70 = .ok (.iastore, 1) := by decide +kernel
theorem dX2_seats_71 : decode cX2_seats 71 = .ok (.iinc 4 1, 3) := by decide +kernel
theorem dX2_seats_74 : decode cX2_seats 74 = .ok (.goto (-19), 3) := by decide +kernel
theorem dX2_seats_77 : decode cX2_seats 77 = .ok (.iload_n 3, 1) := by decide +kernel
theorem dX2_seats_78 : decode cX2_seats 78 = .ok (.ireturn, 1) := by decide +kernel
set_option maxRecDepth 20000 in
theorem ggX2_sit_X2_isNear : GoodIn wsX2_sit wsX2_isNear := goodIn_r _ [8, 2, 3, 1, 9, 10, 7, 11, 12, 13, 14, 15, 16, 17, 18, 19, 20, 21, 22, 23, 24, 25, 26, 27, 28, 29, 30, 31, 32] (by decide +kernel) (by decide +kernel)
set_option maxRecDepth 20000 in
theorem gX2_sit_X2_isNear : GoodIn wsX2_sit (wsV RX2 155 RX2 yX2_isNear wsX2_isNear) := goodIn_app (goodIn_of _ (by decide +kernel)) ggX2_sit_X2_isNear
theorem dX2_sit_0 : decode cX2_sit 0 = .ok (.iconst 0, 1) := by decide +kernel
theorem dX2_sit_1 : decode cX2_sit 1 = .ok (.istore_n 1, 1) := by decide +kernel
theorem dX2_sit_2 : decode cX2_sit 2 = .ok (.iload_n 1, 1) := by decide +kernel
theorem dX2_sit_3 : decode cX2_sit 3 = .ok (.bipush 64, 2) := by decide +kernel
theorem dX2_sit_5 : decode cX2_sit 5 = .ok (.if_icmp .ge 17, 3) := by decide +kernel
theorem dX2_sit_8 : decode cX2_sit 8 = .ok (.aload_n 0, 1) := by decide +kernel
theorem dX2_sit_9 : decode cX2_sit 9 = .ok (.getfield 53, 3) := by decide +kernel
theorem dX2_sit_12 : decode cX2_sit 12 = .ok (.iload_n 1, 1) := by decide +kernel
theorem dX2_sit_13 : decode cX2_sit 13 = .ok (.bipush (-9), 2) := by decide +kernel
theorem dX2_sit_15 : decode cX2_sit 15 = .ok (.iastore, 1) := by decide +kernel
theorem dX2_sit_16 : decode cX2_sit 16 = .ok (.iinc 1 1, 3) := by decide +kernel
theorem dX2_sit_19 : decode cX2_sit 19 = .ok (.goto (-17), 3) := by decide +kernel
theorem dX2_sit_22 : decode cX2_sit 22 = .ok (.iconst 0, 1) := by decide +kernel
theorem dX2_sit_23 : decode cX2_sit 23 = .ok (.istore_n 1, 1) := by decide +kernel
theorem dX2_sit_24 : decode cX2_sit 24 = .ok (.iload_n 1, 1) := by decide +kernel
theorem dX2_sit_25 : decode cX2_sit 25 = .ok (.aload_n 0, 1) := by decide +kernel
theorem dX2_sit_26 : decode cX2_sit 26 = .ok (.getfield 47, 3) := by decide +kernel
theorem dX2_sit_29 : decode cX2_sit 29 = .ok (.if_icmp .ge 55, 3) := by decide +kernel
theorem dX2_sit_32 : decode cX2_sit 32 = .ok (.iconst 0, 1) := by decide +kernel
theorem dX2_sit_33 : decode cX2_sit 33 = .ok (.istore_n 2, 1) := by decide +kernel
theorem dX2_sit_34 : decode cX2_sit 34 = .ok (.iload_n 2, 1) := by decide +kernel
theorem dX2_sit_35 : decode cX2_sit 35 = .ok (.aload_n 0, 1) := by decide +kernel
theorem dX2_sit_36 : decode cX2_sit 36 = .ok (.getfield 50, 3) := by decide +kernel
theorem dX2_sit_39 : decode cX2_sit 39 = .ok (.if_icmp .ge 39, 3) := by decide +kernel
theorem dX2_sit_42 : decode cX2_sit 42 = .ok (.iconst 0, 1) := by decide +kernel
theorem dX2_sit_43 : decode cX2_sit 43 = .ok (.istore_n 3, 1) := by decide +kernel
theorem dX2_sit_44 : decode cX2_sit 44 = .ok (.aload_n 0, 1) := by decide +kernel
theorem dX2_sit_45 : decode cX2_sit 45 = .ok (.iload_n 1, 1) := by decide +kernel
theorem dX2_sit_46 : decode cX2_sit 46 = .ok (.iload_n 2, 1) := by decide +kernel
theorem dX2_sit_47 : decode cX2_sit 47 = .ok (.iload_n 3, 1) := by decide +kernel
theorem dX2_sit_48 : decode cX2_sit 48 = .ok (.invokevirtual 155, 3) := by decide +kernel
theorem dX2_sit_51 : decode cX2_sit 51 = .ok (.ifCond .eq 9, 3) := by decide +kernel
theorem dX2_sit_54 : decode cX2_sit 54 = .ok (.iinc 3 1, 3) := by decide +kernel
theorem dX2_sit_57 : decode cX2_sit 57 = .ok (.goto (-13), 3) := by decide +kernel
theorem dX2_sit_60 : decode cX2_sit 60 = .ok (.aload_n 0, 1) := by decide +kernel
theorem dX2_sit_61 : decode cX2_sit 61 = .ok (.getfield 53, 3) := by decide +kernel
theorem dX2_sit_64 : decode cX2_sit 64 = .ok (.bipush 8, 2) := by decide +kernel
theorem dX2_sit_66 : decode cX2_sit 66 = .ok (.iload_n 1, 1) := by decide +kernel
theorem dX2_sit_67 : decode cX2_sit 67 = .ok (.imul, 1) := by decide +kernel
theorem dX2_sit_68 : decode cX2_sit 68 = .ok (.iload_n 2, 1) := by decide +kernel
theorem dX2_sit_69 : decode cX2_sit 69 = .ok (.iadd, 1) := by decide +kernel
theorem dX2_sit_70 : decode cX2_sit 70 = .ok (.iload_n 3, 1) := by decide +kernel
theorem dX2_sit_71 : decode cX2_sit 71 = .ok (.iastore, 1) := by decide +kernel
theorem dX2_sit_72 : decode cX2_sit 72 = .ok (.iinc 2 1, 3) := by decide +kernel
theorem dX2_sit_75 : decode cX2_sit 75 = .ok (.goto (-41), 3) := by decide +kernel
theorem dX2_sit_78 : decode cX2_sit 78 = .ok (.iinc 1 1, 3) := by decide +kernel
theorem dX2_sit_81 : decode cX2_sit 81 = .ok (.goto (-57), 3) := by decide +kernel
theorem dX2_sit_84 : decode cX2_sit 84 = .ok (.return_, 1) := by decide +kernel
set_option maxRecDepth 20000 in
theorem ggX2_isNear_X2_in : GoodIn wsX2_isNear wsX2_in := goodIn_r _ [7] (by decide +kernel) (by decide +kernel)
set_option maxRecDepth 20000 in
theorem gX2_isNear_X2_in : GoodIn wsX2_isNear (va_wsS RX2 65 yX2_in wsX2_in) := goodIn_app (goodIn_of _ (by decide +kernel)) ggX2_isNear_X2_in
theorem dX2_isNear_0 : decode cX2_isNear 0 = .ok (.iconst 0, 1) := by decide +kernel
theorem dX2_isNear_1 : decode cX2_isNear 1 = .ok (.istore 4, 2) := by decide +kernel
theorem dX2_isNear_3 : decode cX2_isNear 3 = .ok (.iload_n 1, 1) := by decide +kernel
theorem dX2_isNear_4 : decode cX2_isNear 4 = .ok (.iconst 1, 1) := by decide +kernel
theorem dX2_isNear_5 : decode cX2_isNear 5 = .ok (.isub, 1) := by decide +kernel
theorem dX2_isNear_6 : decode cX2_isNear 6 = .ok (.istore 5, 2) := by decide +kernel
theorem dX2_isNear_8 : decode cX2_isNear 8 = .ok (.iload 5, 2) := by decide +kernel
theorem dX2_isNear_10 : decode cX2_isNear 10 = .ok (.iload_n 1, 1) := by decide +kernel
theorem dX2_isNear_11 : decode cX2_isNear 11 = .ok (.iconst 1, 1) := by decide +kernel
theorem dX2_isNear_12 : decode cX2_isNear 12 = .ok (.iadd, 1) := by decide +kernel
theorem dX2_isNear_13 : decode cX2_isNear 13 = .ok (.if_icmp .gt 115, 3) := by decide +kernel
theorem dX2_isNear_16 : decode cX2_isNear 16 = .ok (.iload_n 2, 1) := by decide +kernel
theorem dX2_isNear_17 : decode cX2_isNear 17 = .ok (.iconst 1, 1) := by decide +kernel
theorem dX2_isNear_18 : decode cX2_isNear 18 = .ok (.isub, 1) := by decide +kernel
theorem dX2_isNear_19 : decode cX2_isNear 19 = .ok (.istore 6, 2) := by decide +kernel
theorem dX2_isNear_21 : decode cX2_isNear 21 = .ok (.iload 6, 2) := by decide +kernel
theorem dX2_isNear_23 : decode cX2_isNear 23 = .ok (.iload_n 2, 1) := by decide +kernel
theorem dX2_isNear_24 : decode cX2_isNear 24 = .ok (.iconst 1, 1) := by decide +kernel
theorem dX2_isNear_25 : decode cX2_isNear 25 = .ok (.iadd, 1) := by decide +kernel
theorem dX2_isNear_26 : decode cX2_isNear 26 = .ok (.if_icmp .gt 96, 3) := by decide +kernel
theorem dX2_isNear_29 : decode cX2_isNear 29 = .ok (.iload 5, 2) := by decide +kernel
theorem dX2_isNear_31 : decode cX2_isNear 31 = .ok (.i2l, 1) := by decide +kernel
theorem dX2_isNear_32 : decode cX2_isNear 32 = .ok (.lconst 0, 1) := by decide +kernel
theorem dX2_isNear_33 : decode cX2_isNear 33 = .ok (.aload_n 0, 1) := by decide +kernel
theorem dX2_isNear_34 : decode cX2_isNear 34 = .ok (.getfield 47, 3) := by decide +kernel
theorem dX2_isNear_37 : decode cX2_isNear 37 = .ok (.iconst 1, 1) := by decide +kernel
theorem dX2_isNear_38 : decode cX2_isNear 38 = .ok (.isub, 1) := by decide +kernel
theorem dX2_isNear_39 : decode cX2_isNear 39 = .ok (.i2l, 1) := by decide +kernel
theorem dX2_isNear_40 : decode cX2_isNear 40 = .ok (.invokestatic 65, 3) := by decide +kernel
theorem dX2_isNear_43 : decode cX2_isNear 43 = .ok (.ifCond .eq 36, 3) := by decide +kernel
theorem dX2_isNear_46 : decode cX2_isNear 46 = .ok (.iload 6, 2) := by decide +kernel
theorem dX2_isNear_48 : decode cX2_isNear 48 = .ok (.i2l, 1) := by decide +kernel
theorem dX2_isNear_49 : decode cX2_isNear 49 = .ok (.lconst 0, 1) := by decide +kernel
theorem dX2_isNear_50 : decode cX2_isNear 50 = .ok (.aload_n 0, 1) := by decide +kernel
theorem dX2_isNear_51 : decode cX2_isNear 51 = .ok (.getfield 50, 3) := by decide +kernel
theorem dX2_isNear_54 : decode cX2_isNear 54 = .ok (.iconst 1, 1) := by decide +kernel
theorem dX2_isNear_55 : decode cX2_isNear 55 = .ok (.isub, 1) := by decide +kernel
theorem dX2_isNear_56 : decode cX2_isNear 56 = .ok (.i2l, 1) := by decide +kernel
theorem dX2_isNear_57 : decode cX2_isNear 57 = .ok (.invokestatic 65, 3) := by decide +kernel
theorem dX2_isNear_60 : decode cX2_isNear 60 = .ok (.ifCond .eq 19, 3) := by decide +kernel
theorem dX2_isNear_63 : decode cX2_isNear 63 = .ok (.iload 5, 2) := by decide +kernel
theorem dX2_isNear_65 : decode cX2_isNear 65 = .ok (.iload_n 1, 1) := by decide +kernel
theorem dX2_isNear_66 : decode cX2_isNear 66 = .ok (.if_icmp .ne 9, 3) := by decide +kernel
theorem dX2_isNear_69 : decode cX2_isNear 69 = .ok (.iload 6, 2) := by decide +kernel
theorem dX2_isNear_71 : decode cX2_isNear 71 = .ok (.iload_n 2, 1) := by decide +kernel
theorem dX2_isNear_72 : decode cX2_isNear 72 = .ok (.if_icmp .eq 7, 3) := by decide +kernel
theorem dX2_isNear_75 : decode cX2_isNear 75 = .ok (.iconst 1, 1) := by decide +kernel
theorem dX2_isNear_76 : decode cX2_isNear 76 = .ok (.goto 4, 3) := by decide +kernel
theorem dX2_isNear_79 : decode cX2_isNear 79 = .ok (.iconst 0, 1) := by decide +kernel
theorem dX2_isNear_80 : decode cX2_isNear 80 = .ok (.istore 7, 2) := by decide +kernel
theorem dX2_isNear_82 : decode cX2_isNear 82 = .ok (.iload 4, 2) := by decide +kernel
theorem dX2_isNear_84 : decode cX2_isNear 84 = .ok (.ifCond .ne 25, 3) := by decide +kernel
theorem dX2_isNear_87 : decode cX2_isNear 87 = .ok (.iload 7, 2) := by decide +kernel
theorem dX2_isNear_89 : decode cX2_isNear 89 = .ok (.ifCond .eq 24, 3) := by decide +kernel
theorem dX2_isNear_92 : decode cX2_isNear 92 = .ok (.aload_n 0, 1) := by decide +kernel
theorem dX2_isNear_93 : decode cX2_isNear 93 = .ok (.getfield 53, 3) := by decide +kernel
theorem dX2_isNear_96 : decode cX2_isNear 96 = .ok (.bipush 8, 2) := by decide +kernel
theorem dX2_isNear_98 : decode cX2_isNear 98 = .ok (.iload 5, 2) := by decide +kernel
theorem dX2_isNear_100 : decode cX2_isNear 100 = .ok (.imul, 1) := by decide +kernel
theorem dX2_isNear_101 : decode cX2_isNear 101 = .ok (.iload 6, 2) := by decide +kernel
theorem dX2_isNear_103 : decode cX2_isNear 103 = .ok (.iadd, 1) := by decide +kernel
theorem dX2_isNear_104 : decode cX2_isNear 104 = .ok (.iaload, 1) := by decide +kernel
theorem dX2_isNear_105 : decode cX2_isNear 105 = .ok (.iload_n 3, 1) := by decide +kernel
theorem dX2_isNear_106 : decode cX2_isNear 106 = .ok (.if_icmp .ne 7, 3) := by decide +kernel
theorem dX2_isNear_109 : decode cX2_isNear 109 = .ok (.iconst 1, 1) := by decide +kernel
theorem dX2_isNear_110 : decode cX2_isNear 110 = .ok (.goto 4, 3) := by decide +kernel
theorem dX2_isNear_113 : decode cX2_isNear 113 = .ok (.iconst 0, 1) := by decide +kernel
theorem dX2_isNear_114 : decode cX2_isNear 114 = .ok (.istore 4, 2) := by decide +kernel
theorem dX2_isNear_116 : decode cX2_isNear 116 = .ok (.iinc 6 1, 3) := by decide +kernel
theorem dX2_isNear_119 : decode cX2_isNear 119 = .ok (.goto (-98), 3) := by decide +kernel
theorem dX2_isNear_122 : decode cX2_isNear 122 = .ok (.iinc 5 1, 3) := by decide +kernel
theorem dX2_isNear_125 : decode cX2_isNear 125 = .ok (.goto (-117), 3) := by decide +kernel
theorem dX2_isNear_128 : decode cX2_isNear 128 = .ok (.iload 4, 2) := by decide +kernel
theorem dX2_isNear_130 : decode cX2_isNear 130 = .ok (.ireturn, 1) := by decide +kernel
set_option maxRecDepth 20000 in
theorem ggX2_base_X2_in : GoodIn wsX2_base wsX2_in := goodIn_r _ [7] (by decide +kernel) (by decide +kernel)
set_option maxRecDepth 20000 in
theorem gX2_base_X2_in : GoodIn wsX2_base (va_wsS RX2 65 yX2_in wsX2_in) := goodIn_app (goodIn_of _ (by decide +kernel)) ggX2_base_X2_in
theorem dX2_base_0 : decode cX2_base 0 = .ok (.aload_n 0, 1) := by decide +kernel
theorem dX2_base_1 : decode cX2_base 1 = .ok (.iconst 0, 1) := by decide +kernel
theorem dX2_base_2 : decode cX2_base 2 = .ok (.putfield 59, 3) := by decide +kernel
theorem dX2_base_5 : decode cX2_base 5 = .ok (.iload_n 1, 1) := by decide +kernel
theorem dX2_base_6 : decode cX2_base 6 = .ok (.i2l, 1) := by decide +kernel
theorem dX2_base_7 : decode cX2_base 7 = .ok (.lconst 0, 1) := by decide +kernel
theorem dX2_base_8 : decode cX2_base 8 = .ok (.ldc2_w 158, 3) := by decide +kernel
theorem dX2_base_11 : decode cX2_base 11 = .ok (.invokestatic 65, 3) := by decide +kernel
theorem dX2_base_14 : decode cX2_base 14 = .ok (.ifCond .ne 6, 3) := by decide +kernel
theorem dX2_base_17 : decode cX2_base 17 = .ok (.bipush (-2), 2) := by decide +kernel
theorem dX2_base_19 : decode cX2_base 19 = .ok (.ireturn, 1) := by decide +kernel
theorem dX2_base_20 : decode cX2_base 20 = .ok (.aload_n 0, 1) := by decide +kernel
theorem dX2_base_21 : decode cX2_base 21 = .ok (.getfield 160, 3) := by decide +kernel
theorem dX2_base_24 : decode cX2_base 24 = .ok (.istore_n 2, 1) := by decide +kernel
theorem dX2_base_25 : decode cX2_base 25 = .ok (.aload_n 0, 1) := by decide +kernel
theorem dX2_base_26 : decode cX2_base 26 = .ok (.iload_n 1, 1) := by decide +kernel
theorem dX2_base_27 : decode cX2_base 27 = .ok (.putfield 160, 3) := by decide +kernel
theorem dX2_base_30 : decode cX2_base 30 = .ok (.iload_n 2, 1) := by decide +kernel
theorem dX2_base_31 : decode cX2_base 31 = .ok (.ireturn, 1) := by decide +kernel
set_option maxRecDepth 20000 in
theorem ggX2_sheetOf_X2_sit : GoodIn wsX2_sheetOf wsX2_sit := goodIn_r _ [7, 2, 8, 9, 10, 11, 12, 6, 13, 14, 15, 16, 17, 18, 19, 20, 21, 22, 23, 24, 25, 26, 27, 28, 29, 30, 31, 32, 33, 34, 35, 36, 37] (by decide +kernel) (by decide +kernel)
set_option maxRecDepth 20000 in
theorem gX2_sheetOf_X2_sit : GoodIn wsX2_sheetOf (wsV RX2 163 RX2 yX2_sit wsX2_sit) := goodIn_app (goodIn_of _ (by decide +kernel)) ggX2_sheetOf_X2_sit
theorem dX2_sheetOf_0 : decode cX2_sheetOf 0 = .ok (.aload_n 0, 1) := by decide +kernel
theorem dX2_sheetOf_1 : decode cX2_sheetOf 1 = .ok (.invokevirtual 163, 3) := by decide +kernel
theorem dX2_sheetOf_4 : decode cX2_sheetOf 4 = .ok (.aload_n 0, 1) := by decide +kernel
theorem dX2_sheetOf_5 : decode cX2_sheetOf 5 = .ok (.getfield 160, 3) := by decide +kernel
theorem dX2_sheetOf_8 : decode cX2_sheetOf 8 = .ok (.aload_n 0, 1) := by decide +kernel
theorem dX2_sheetOf_9 : decode cX2_sheetOf 9 = .ok (.getfield 53, 3) := by decide +kernel
theorem dX2_sheetOf_12 : decode cX2_sheetOf 12 = .ok (.bipush 8, 2) := by decide +kernel
theorem dX2_sheetOf_14 : decode cX2_sheetOf 14 = .ok (.iload_n 1, 1) := by decide +kernel
theorem dX2_sheetOf_15 : decode cX2_sheetOf 15 = .ok (.bipush 10, 2) := by decide +kernel
theorem dX2_sheetOf_17 : decode cX2_sheetOf 17 = .ok (.idiv, 1) := by decide +kernel
theorem dX2_sheetOf_18 : decode cX2_sheetOf 18 = .ok (.imul, 1) := by decide +kernel
theorem dX2_sheetOf_19 : decode cX2_sheetOf 19 = .ok (.iload_n 1, 1) := by decide +kernel
theorem dX2_sheetOf_20 : decode cX2_sheetOf 20 = .ok (.bipush 10, 2) := by decide +kernel
theorem dX2_sheetOf_22 : decode cX2_sheetOf 22 = .ok (.irem, 1) := by decide +kernel
theorem dX2_sheetOf_23 : decode cX2_sheetOf 23 = .ok (.iadd, 1) := by decide +kernel
theorem dX2_sheetOf_24 : decode cX2_sheetOf 24 = .ok (.iaload, 1) := by decide +kernel
theorem dX2_sheetOf_25 : decode cX2_sheetOf 25 = .ok (.iadd, 1) := by decide +kernel
theorem dX2_sheetOf_26 : decode cX2_sheetOf 26 = .ok (.ireturn, 1) := by decide +kernel
set_option maxRecDepth 20000 in
theorem ggX2_seat_X2_noSeat : GoodIn wsX2_seat wsX2_noSeat := goodIn_r _ [6, 7, 8, 26, 27, 28, 29, 30, 31, 32, 33, 34, 35, 36, 37, 38, 39, 40, 41, 42, 43, 44, 45, 46] (by decide +kernel) (by decide +kernel)
set_option maxRecDepth 20000 in
theorem gX2_seat_X2_noSeat : GoodIn wsX2_seat (wsV RX2 166 RX2 yX2_noSeat wsX2_noSeat) := goodIn_app (goodIn_of _ (by decide +kernel)) ggX2_seat_X2_noSeat
set_option maxRecDepth 20000 in
theorem ggX2_seat_X2_sheetOf : GoodIn wsX2_seat wsX2_sheetOf := goodIn_r _ [12, 13, 14, 15, 16, 17, 5, 18, 7, 8, 19, 20, 21, 22, 23, 24, 25, 26, 27, 28, 29, 30, 31, 32, 33, 34, 35, 36, 37, 38, 39, 40, 41, 42, 43, 44, 45, 46] (by decide +kernel) (by decide +kernel)
set_option maxRecDepth 20000 in
theorem gX2_seat_X2_sheetOf : GoodIn wsX2_seat (wsV RX2 169 RX2 yX2_sheetOf wsX2_sheetOf) := goodIn_app (goodIn_of _ (by decide +kernel)) ggX2_seat_X2_sheetOf
theorem dX2_seat_0 : decode cX2_seat 0 = .ok (.aload_n 0, 1) := by decide +kernel
theorem dX2_seat_1 : decode cX2_seat 1 = .ok (.iconst 0, 1) := by decide +kernel
theorem dX2_seat_2 : decode cX2_seat 2 = .ok (.putfield 59, 3) := by decide +kernel
theorem dX2_seat_5 : decode cX2_seat 5 = .ok (.aload_n 0, 1) := by decide +kernel
theorem dX2_seat_6 : decode cX2_seat 6 = .ok (.iload_n 1, 1) := by decide +kernel
theorem dX2_seat_7 : decode cX2_seat 7 = .ok (.invokevirtual 166, 3) := by decide +kernel
theorem dX2_seat_10 : decode cX2_seat 10 = .ok (.ifCond .eq 7, 3) := by decide +kernel
theorem dX2_seat_13 : decode cX2_seat 13 = .ok (.iconst (-1), 1) := by decide +kernel
theorem dX2_seat_14 : decode cX2_seat 14 = .ok (.goto 8, 3) := by decide +kernel
theorem dX2_seat_17 : decode cX2_seat 17 = .ok (.aload_n 0, 1) := by decide +kernel
theorem dX2_seat_18 : decode cX2_seat 18 = .ok (.iload_n 1, 1) := by decide +kernel
theorem dX2_seat_19 : decode cX2_seat 19 = .ok (.invokevirtual 169, 3) := by decide +kernel
theorem dX2_seat_22 : decode cX2_seat 22 = .ok (.ireturn, 1) := by decide +kernel
set_option maxRecDepth 20000 in
theorem ggX2_unlike_X2_sit : GoodIn wsX2_unlike wsX2_sit := goodIn_r _ [7, 2, 8, 9, 10, 11, 12, 6, 13, 14, 15, 16, 17, 18, 19, 20, 21, 22, 23, 24, 25, 26, 27, 28, 29, 30, 31, 32, 33, 34, 35, 36, 37] (by decide +kernel) (by decide +kernel)
set_option maxRecDepth 20000 in
theorem gX2_unlike_X2_sit : GoodIn wsX2_unlike (wsV RX2 163 RX2 yX2_sit wsX2_sit) := goodIn_app (goodIn_of _ (by decide +kernel)) ggX2_unlike_X2_sit
theorem dX2_unlike_0 : decode cX2_unlike 0 = .ok (.aload_n 0, 1) := by decide +kernel
theorem dX2_unlike_1 : decode cX2_unlike 1 = .ok (.iconst 0, 1) := by decide +kernel
theorem dX2_unlike_2 : decode cX2_unlike 2 = .ok (.putfield 59, 3) := by decide +kernel
theorem dX2_unlike_5 : decode cX2_unlike 5 = .ok (.aload_n 0, 1) := by decide +kernel
theorem dX2_unlike_6 : decode cX2_unlike 6 = .ok (.invokevirtual 163, 3) := by decide +kernel
theorem dX2_unlike_9 : decode cX2_unlike 9 = .ok (.iconst 0, 1) := by decide +kernel
theorem dX2_unlike_10 : decode cX2_unlike 10 = .ok (.istore_n 1, 1) := by decide +kernel
theorem dX2_unlike_11 : decode cX2_unlike 11 = .ok (.iconst 0, 1) := by decide +kernel
theorem dX2_unlike_12 : decode cX2_unlike 12 = .ok (.istore_n 2, 1) := by decide +kernel
theorem dX2_unlike_13 : decode cX2_unlike 13 = .ok (.iload_n 2, 1) := by decide +kernel
theorem dX2_unlike_14 : decode cX2_unlike 14 = .ok (.bipush 64, 2) := by decide +kernel
theorem dX2_unlike_16 : decode cX2_unlike 16 = .ok (.if_icmp .ge 30, 3) := by decide +kernel
theorem dX2_unlike_19 : decode cX2_unlike 19 = .ok (.aload_n 0, 1) := by decide +kernel
theorem dX2_unlike_20 : decode cX2_unlike 20 = .ok (.getfield 53, 3) := by decide +kernel
theorem dX2_unlike_23 : decode cX2_unlike 23 = .ok (.iload_n 2, 1) := by decide +kernel
theorem dX2_unlike_24 : decode cX2_unlike 24 = .ok (.iaload, 1) := by decide +kernel
theorem dX2_unlike_25 : decode cX2_unlike 25 = .ok (.iload_n 1, 1) := by decide +kernel
theorem dX2_unlike_26 : decode cX2_unlike 26 = .ok (.if_icmp .le 12, 3) := by decide +kernel
theorem dX2_unlike_29 : decode cX2_unlike 29 = .ok (.aload_n 0, 1) := by decide +kernel
theorem dX2_unlike_30 : decode cX2_unlike 30 = .ok (.getfield 53, 3) := by decide +kernel
theorem dX2_unlike_33 : decode cX2_unlike 33 = .ok (.iload_n 2, 1) := by decide +kernel
theorem dX2_unlike_34 : decode cX2_unlike 34 = .ok (.iaload, 1) := by decide +kernel
theorem dX2_unlike_35 : decode cX2_unlike 35 = .ok (.goto 4, 3) := by decide +kernel
theorem dX2_unlike_38 : decode cX2_unlike 38 = .ok (.iload_n 1, 1) := by decide +kernel
theorem dX2_unlike_39 : decode cX2_unlike 39 = .ok (.istore_n 1, 1) := by decide +kernel
theorem dX2_unlike_40 : decode cX2_unlike 40 = .ok (.iinc 2 1, 3) := by decide +kernel
theorem dX2_unlike_43 : decode cX2_unlike 43 = .ok (.goto (-30), 3) := by decide +kernel
theorem dX2_unlike_46 : decode cX2_unlike 46 = .ok (.iload_n 1, 1) := by decide +kernel
theorem dX2_unlike_47 : decode cX2_unlike 47 = .ok (.iconst 1, 1) := by decide +kernel
theorem dX2_unlike_48 : decode cX2_unlike 48 = .ok (.iadd, 1) := by decide +kernel
theorem dX2_unlike_49 : decode cX2_unlike 49 = .ok (.ireturn, 1) := by decide +kernel
set_option maxRecDepth 20000 in
theorem ggX2_mark_X2_noSeat : GoodIn wsX2_mark wsX2_noSeat := goodIn_r _ [10, 11, 12, 90, 91, 92, 93, 94, 95, 96, 97, 98, 99, 100, 101, 102, 103, 104, 105, 106, 107, 108, 109, 110] (by decide +kernel) (by decide +kernel)
set_option maxRecDepth 20000 in
theorem gX2_mark_X2_noSeat : GoodIn wsX2_mark (wsV RX2 166 RX2 yX2_noSeat wsX2_noSeat) := goodIn_app (goodIn_of _ (by decide +kernel)) ggX2_mark_X2_noSeat
set_option maxRecDepth 20000 in
theorem ggX2_mark_X2_noPlace : GoodIn wsX2_mark wsX2_noPlace := goodIn_r _ [16, 17, 18, 19, 9, 20, 90, 91, 92, 93, 94, 95, 96, 97, 98, 99, 100, 101, 102, 103, 104, 105, 106, 107, 108, 109, 110] (by decide +kernel) (by decide +kernel)
set_option maxRecDepth 20000 in
theorem gX2_mark_X2_noPlace : GoodIn wsX2_mark (wsV RX2 128 RX2 yX2_noPlace wsX2_noPlace) := goodIn_app (goodIn_of _ (by decide +kernel)) ggX2_mark_X2_noPlace
set_option maxRecDepth 20000 in
theorem ggX2_mark_X2_noSheet : GoodIn wsX2_mark wsX2_noSheet := goodIn_r _ [24, 17, 2, 25, 26, 27, 9, 28, 29, 30, 31, 32, 33, 34, 35, 36, 37, 38, 39, 40, 41, 42, 18, 19, 20, 43, 44, 45, 46, 47, 48, 49, 50, 90, 91, 92, 93, 94, 95, 96, 97, 98, 99, 100, 101, 102, 103, 104, 105, 106, 107, 108, 109, 110] (by decide +kernel) (by decide +kernel)
set_option maxRecDepth 20000 in
theorem gX2_mark_X2_noSheet : GoodIn wsX2_mark (wsV RX2 140 RX2 yX2_noSheet wsX2_noSheet) := goodIn_app (goodIn_of _ (by decide +kernel)) ggX2_mark_X2_noSheet
set_option maxRecDepth 20000 in
theorem ggX2_mark_X2_sheetOf : GoodIn wsX2_mark wsX2_sheetOf := goodIn_r _ [54, 55, 56, 57, 58, 59, 9, 60, 11, 12, 61, 62, 63, 64, 18, 19, 20, 90, 91, 92, 93, 94, 95, 96, 97, 98, 99, 100, 101, 102, 103, 104, 105, 106, 107, 108, 109, 110] (by decide +kernel) (by decide +kernel)
set_option maxRecDepth 20000 in
theorem gX2_mark_X2_sheetOf : GoodIn wsX2_mark (wsV RX2 169 RX2 yX2_sheetOf wsX2_sheetOf) := goodIn_app (goodIn_of _ (by decide +kernel)) ggX2_mark_X2_sheetOf
set_option maxRecDepth 20000 in
theorem ggX2_mark_X2_variantAt : GoodIn wsX2_mark wsX2_variantAt := goodIn_r _ [68, 2, 17, 69, 70, 71, 72, 9, 73, 25, 26, 27, 28, 29, 30, 31, 32, 33, 34, 35, 36, 37, 38, 39, 40, 41, 42, 18, 19, 20, 43, 44, 45, 46, 47, 48, 49, 50, 90, 91, 92, 93, 94, 95, 96, 97, 98, 99, 100, 101, 102, 103, 104, 105, 106, 107, 108, 109, 110] (by decide +kernel) (by decide +kernel)
set_option maxRecDepth 20000 in
theorem gX2_mark_X2_variantAt : GoodIn wsX2_mark (wsV RX2 144 RX2 yX2_variantAt wsX2_variantAt) := goodIn_app (goodIn_of _ (by decide +kernel)) ggX2_mark_X2_variantAt
set_option maxRecDepth 20000 in
theorem ggX2_mark_X2_tellsOf : GoodIn wsX2_mark wsX2_tellsOf := goodIn_r _ [77, 78, 79, 80, 9, 81, 38, 82, 83, 84, 85, 32, 40, 41, 42, 86, 87, 88, 89, 46, 47, 48, 49, 50, 43, 44, 45, 18, 19, 20, 90, 91, 92, 93, 94, 95, 96, 97, 98, 99, 100, 101, 102, 103, 104, 105, 106, 107, 108, 109, 110] (by decide +kernel) (by decide +kernel)
set_option maxRecDepth 20000 in
theorem gX2_mark_X2_tellsOf : GoodIn wsX2_mark (wsV RX2 123 RX2 yX2_tellsOf wsX2_tellsOf) := goodIn_app (goodIn_of _ (by decide +kernel)) ggX2_mark_X2_tellsOf
theorem dX2_mark_0 : decode cX2_mark 0 = .ok (.aload_n 0, 1) := by decide +kernel
theorem dX2_mark_1 : decode cX2_mark 1 = .ok (.iconst 0, 1) := by decide +kernel
theorem dX2_mark_2 : decode cX2_mark 2 = .ok (.putfield 59, 3) := by decide +kernel
theorem dX2_mark_5 : decode cX2_mark 5 = .ok (.aload_n 0, 1) := by decide +kernel
theorem dX2_mark_6 : decode cX2_mark 6 = .ok (.iload_n 1, 1) := by decide +kernel
theorem dX2_mark_7 : decode cX2_mark 7 = .ok (.invokevirtual 166, 3) := by decide +kernel
theorem dX2_mark_10 : decode cX2_mark 10 = .ok (.ifCond .ne 11, 3) := by decide +kernel
theorem dX2_mark_13 : decode cX2_mark 13 = .ok (.aload_n 0, 1) := by decide +kernel
theorem dX2_mark_14 : decode cX2_mark 14 = .ok (.iload_n 2, 1) := by decide +kernel
theorem dX2_mark_15 : decode cX2_mark 15 = .ok (.invokevirtual 128, 3) := by decide +kernel
theorem dX2_mark_18 : decode cX2_mark 18 = .ok (.ifCond .eq 5, 3) := by decide +kernel
theorem dX2_mark_21 : decode cX2_mark 21 = .ok (.iconst (-1), 1) := by decide +kernel
theorem dX2_mark_22 : decode cX2_mark 22 = .ok (.ireturn, 1) := by decide +kernel
theorem dX2_mark_23 : decode cX2_mark 23 = .ok (.aload_n 0, 1) := by decide +kernel
theorem dX2_mark_24 : decode cX2_mark 24 = .ok (.invokevirtual 140, 3) := by decide +kernel
theorem dX2_mark_27 : decode cX2_mark 27 = .ok (.ifCond .eq 6, 3) := by decide +kernel
theorem dX2_mark_30 : decode cX2_mark 30 = .ok (.bipush (-3), 2) := by decide +kernel
theorem dX2_mark_32 : decode cX2_mark 32 = .ok (.ireturn, 1) := by decide +kernel
theorem dX2_mark_33 : decode cX2_mark 33 = .ok (.aload_n 0, 1) := by decide +kernel
theorem dX2_mark_34 : decode cX2_mark 34 = .ok (.aload_n 0, 1) := by decide +kernel
theorem dX2_mark_35 : decode cX2_mark 35 = .ok (.getfield 40, 3) := by decide +kernel
theorem dX2_mark_38 : decode cX2_mark 38 = .ok (.iload_n 2, 1) := by decide +kernel
theorem dX2_mark_39 : decode cX2_mark 39 = .ok (.iaload, 1) := by decide +kernel
theorem dX2_mark_40 : decode cX2_mark 40 = .ok (.aload_n 0, 1) := by decide +kernel
theorem dX2_mark_41 : decode cX2_mark 41 = .ok (.aload_n 0, 1) := by decide +kernel
theorem dX2_mark_42 : decode cX2_mark 42 = .ok (.iload_n 1, 1) := by decide +kernel
theorem dX2_mark_43 : decode cX2_mark 43 = .ok (.invokevirtual 169, 3) := by decide +kernel
theorem dX2_mark_46 : decode cX2_mark 46 = .ok (.iload_n 2, 1) := by decide +kernel
theorem dX2_mark_47 : decode cX2_mark 47 = .ok (.invokevirtual 144, 3) := by decide +kernel
theorem dX2_mark_50 : decode cX2_mark 50 = .ok (.iload_n 3, 1) := by decide +kernel
theorem dX2_mark_51 : decode cX2_mark 51 = .ok (.invokevirtual 123, 3) := by decide +kernel
theorem dX2_mark_54 : decode cX2_mark 54 = .ok (.istore 4, 2) := by decide +kernel
theorem dX2_mark_56 : decode cX2_mark 56 = .ok (.iload 4, 2) := by decide +kernel
theorem dX2_mark_58 : decode cX2_mark 58 = .ok (.ifCond .ne 16, 3) := by decide +kernel
theorem dX2_mark_61 : decode cX2_mark 61 = .ok (.aload_n 0, 1) := by decide +kernel
theorem dX2_mark_62 : decode cX2_mark 62 = .ok (.dup, 1) := by decide +kernel
theorem dX2_mark_63 : decode cX2_mark 63 = .ok (.getfield 172, 3) := by decide +kernel
theorem dX2_mark_66 : decode cX2_mark 66 = .ok (.iconst 1, 1) := by decide +kernel
theorem dX2_mark_67 : decode cX2_mark 67 = .ok (.iadd, 1) := by decide +kernel
theorem dX2_mark_68 : decode cX2_mark 68 = .ok (.putfield 172, 3) := by decide +kernel
theorem dX2_mark_71 : decode cX2_mark 71 = .ok (.goto 44, 3) := by decide +kernel
theorem dX2_mark_74 : decode cX2_mark 74 = .ok (.aload_n 0, 1) := by decide +kernel
theorem dX2_mark_75 : decode cX2_mark 75 = .ok (.dup, 1) := by decide +kernel
theorem dX2_mark_76 : decode cX2_mark 76 = .ok (.getfield 175, 3) := by decide +kernel
theorem dX2_mark_79 : decode cX2_mark 79 = .ok (.iconst 1, 1) := by decide +kernel
theorem dX2_mark_80 : decode cX2_mark 80 = .ok (.iadd, 1) := by decide +kernel
theorem dX2_mark_81 : decode cX2_mark 81 = .ok (.putfield 175, 3) := by decide +kernel
theorem dX2_mark_84 : decode cX2_mark 84 = .ok (.aload_n 0, 1) := by decide +kernel
theorem dX2_mark_85 : decode cX2_mark 85 = .ok (.getfield 56, 3) := by decide +kernel
theorem dX2_mark_88 : decode cX2_mark 88 = .ok (.bipush 8, 2) := by decide +kernel
theorem dX2_mark_90 : decode cX2_mark 90 = .ok (.bipush 8, 2) := by decide +kernel
theorem dX2_mark_92 : decode cX2_mark 92 = .ok (.iload_n 1, 1) := by decide +kernel
theorem dX2_mark_93 : decode cX2_mark 93 = .ok (.bipush 10, 2) := by decide +kernel
theorem dX2_mark_95 : decode cX2_mark 95 = .ok (.idiv, 1) := by decide +kernel
theorem dX2_mark_96 : decode cX2_mark 96 = .ok (.imul, 1) := by decide +kernel
theorem dX2_mark_97 : decode cX2_mark 97 = .ok (.iload_n 1, 1) := by decide +kernel
theorem dX2_mark_98 : decode cX2_mark 98 = .ok (.bipush 10, 2) := by decide +kernel
theorem dX2_mark_100 : decode cX2_mark 100 = .ok (.irem, 1) := by decide +kernel
theorem dX2_mark_101 : decode cX2_mark 101 = .ok (.iadd, 1) := by decide +kernel
theorem dX2_mark_102 : decode cX2_mark 102 = .ok (.imul, 1) := by decide +kernel
theorem dX2_mark_103 : decode cX2_mark 103 = .ok (.aload_n 0, 1) := by decide +kernel
theorem dX2_mark_104 : decode cX2_mark 104 = .ok (.getfield 40, 3) := by decide +kernel
theorem dX2_mark_107 : decode cX2_mark 107 = .ok (.iload_n 2, 1) := by decide +kernel
theorem dX2_mark_108 : decode cX2_mark 108 = .ok (.iaload, 1) := by decide +kernel
theorem dX2_mark_109 : decode cX2_mark 109 = .ok (.iadd, 1) := by decide +kernel
theorem dX2_mark_110 : decode cX2_mark 110 = .ok (.dup2, 1) := by decide +kernel
theorem dX2_mark_111 : decode cX2_mark 111 = .ok (.iaload, 1) := by decide +kernel
theorem dX2_mark_112 : decode cX2_mark 112 = .ok (.iconst 1, 1) := by decide +kernel
theorem dX2_mark_113 : decode cX2_mark 113 = .ok (.iadd, 1) := by decide +kernel
theorem dX2_mark_114 : decode cX2_mark 114 = .ok (.iastore, 1) := by decide +kernel
theorem dX2_mark_115 : decode cX2_mark 115 = .ok (.iload 4, 2) := by decide +kernel
theorem dX2_mark_117 : decode cX2_mark 117 = .ok (.ireturn, 1) := by decide +kernel
theorem dX2_missedOf_0 : decode cX2_missedOf 0 = .ok (.iconst 0, 1) := by decide +kernel
theorem dX2_missedOf_1 : decode cX2_missedOf 1 = .ok (.istore_n 3, 1) := by decide +kernel
theorem dX2_missedOf_2 : decode cX2_missedOf 2 = .ok (.iconst 0, 1) := by decide +kernel
theorem dX2_missedOf_3 : decode cX2_missedOf 3 = .ok (.istore 4, 2) := by decide +kernel
theorem dX2_missedOf_5 : decode cX2_missedOf 5 = .ok (.iload 4, 2) := by decide +kernel
theorem dX2_missedOf_7 : decode cX2_missedOf 7 = .ok (.bipush 8, 2) := by decide +kernel
theorem dX2_missedOf_9 : decode cX2_missedOf 9 = .ok (.if_icmp .ge 51, 3) := by decide +kernel
theorem dX2_missedOf_12 : decode cX2_missedOf 12 = .ok (.iload_n 3, 1) := by decide +kernel
theorem dX2_missedOf_13 : decode cX2_missedOf 13 = .ok (.iload_n 2, 1) := by decide +kernel
theorem dX2_missedOf_14 : decode cX2_missedOf 14 = .ok (.bipush (-9), 2) := by decide +kernel
theorem dX2_missedOf_16 : decode cX2_missedOf 16 = .ok (.if_icmp .eq 9, 3) := by decide +kernel
theorem dX2_missedOf_19 : decode cX2_missedOf 19 = .ok (.iload_n 2, 1) := by decide +kernel
theorem dX2_missedOf_20 : decode cX2_missedOf 20 = .ok (.iload 4, 2) := by decide +kernel
theorem dX2_missedOf_22 : decode cX2_missedOf 22 = .ok (.if_icmp .ne 29, 3) := by decide +kernel
theorem dX2_missedOf_25 : decode cX2_missedOf 25 = .ok (.aload_n 0, 1) := by decide +kernel
theorem dX2_missedOf_26 : decode cX2_missedOf 26 = .ok (.getfield 56, 3) := by decide +kernel
theorem dX2_missedOf_29 : decode cX2_missedOf 29 = .ok (.bipush 8, 2) := by decide +kernel
theorem dX2_missedOf_31 : decode cX2_missedOf 31 = .ok (.bipush 8, 2) := by decide +kernel
theorem dX2_missedOf_33 : decode cX2_missedOf 33 = .ok (.iload_n 1, 1) := by decide +kernel
theorem dX2_missedOf_34 : decode cX2_missedOf 34 = .ok (.bipush 10, 2) := by decide +kernel
theorem dX2_missedOf_36 : decode cX2_missedOf 36 = .ok (.idiv, 1) := by decide +kernel
theorem dX2_missedOf_37 : decode cX2_missedOf 37 = .ok (.imul, 1) := by decide +kernel
theorem dX2_missedOf_38 : decode cX2_missedOf 38 = .ok (.iload_n 1, 1) := by decide +kernel
theorem dX2_missedOf_39 : decode cX2_missedOf 39 = .ok (.bipush 10, 2) := by decide +kernel
theorem dX2_missedOf_41 : decode cX2_missedOf 41 = .ok (.irem, 1) := by decide +kernel
theorem dX2_missedOf_42 : decode cX2_missedOf 42 = .ok (.iadd, 1) := by decide +kernel
theorem dX2_missedOf_43 : decode cX2_missedOf 43 = .ok (.imul, 1) := by decide +kernel
theorem dX2_missedOf_44 : decode cX2_missedOf 44 = .ok (.iload 4, 2) := by decide +kernel
theorem dX2_missedOf_46 : decode cX2_missedOf 46 = .ok (.iadd, 1) := by decide +kernel
theorem dX2_missedOf_47 : decode cX2_missedOf 47 = .ok (.iaload, 1) := by decide +kernel
theorem dX2_missedOf_48 : decode cX2_missedOf 48 = .ok (.goto 4, 3) := by decide +kernel
theorem dX2_missedOf_51 : decode cX2_missedOf 51 = .ok (.iconst 0, 1) := by decide +kernel
theorem dX2_missedOf_52 : decode cX2_missedOf 52 = .ok (.iadd, 1) := by decide +kernel
theorem dX2_missedOf_53 : decode cX2_missedOf 53 = .ok (.istore_n 3, 1) := by decide +kernel
theorem dX2_missedOf_54 : decode cX2_missedOf 54 = .ok (.iinc 4 1, 3) := by decide +kernel
theorem dX2_missedOf_57 : decode cX2_missedOf 57 = .ok (.goto (-52), 3) := by decide +kernel
theorem dX2_missedOf_60 : decode cX2_missedOf 60 = .ok (.iload_n 3, 1) := by decide +kernel
theorem dX2_missedOf_61 : decode cX2_missedOf 61 = .ok (.ireturn, 1) := by decide +kernel
set_option maxRecDepth 20000 in
theorem ggX2_missed_X2_noSeat : GoodIn wsX2_missed wsX2_noSeat := goodIn_r _ [6, 7, 8, 22, 23, 24, 25, 26, 27, 28, 29, 30, 31, 32, 33, 34, 35, 36, 37, 38, 39, 40, 41, 42] (by decide +kernel) (by decide +kernel)
set_option maxRecDepth 20000 in
theorem gX2_missed_X2_noSeat : GoodIn wsX2_missed (wsV RX2 166 RX2 yX2_noSeat wsX2_noSeat) := goodIn_app (goodIn_of _ (by decide +kernel)) ggX2_missed_X2_noSeat
set_option maxRecDepth 20000 in
theorem ggX2_missed_X2_noKind : GoodIn wsX2_missed wsX2_noKind := goodIn_r _ [12, 13, 14, 15, 5, 16, 22, 23, 24, 25, 26, 27, 28, 29, 30, 31, 32, 33, 34, 35, 36, 37, 38, 39, 40, 41, 42] (by decide +kernel) (by decide +kernel)
set_option maxRecDepth 20000 in
theorem gX2_missed_X2_noKind : GoodIn wsX2_missed (wsV RX2 91 RX2 yX2_noKind wsX2_noKind) := goodIn_app (goodIn_of _ (by decide +kernel)) ggX2_missed_X2_noKind
set_option maxRecDepth 20000 in
theorem ggX2_missed_X2_missedOf : GoodIn wsX2_missed wsX2_missedOf := goodIn_r _ [20, 21, 22, 23, 24, 25, 26, 27, 28, 29, 30, 31, 32, 33, 34, 35, 36, 37, 38, 39, 40, 41, 42] (by decide +kernel) (by decide +kernel)
set_option maxRecDepth 20000 in
theorem gX2_missed_X2_missedOf : GoodIn wsX2_missed (wsV RX2 178 RX2 yX2_missedOf wsX2_missedOf) := goodIn_app (goodIn_of _ (by decide +kernel)) ggX2_missed_X2_missedOf
theorem dX2_missed_0 : decode cX2_missed 0 = .ok (.aload_n 0, 1) := by decide +kernel
theorem dX2_missed_1 : decode cX2_missed 1 = .ok (.iconst 0, 1) := by decide +kernel
theorem dX2_missed_2 : decode cX2_missed 2 = .ok (.putfield 59, 3) := by decide +kernel
theorem dX2_missed_5 : decode cX2_missed 5 = .ok (.aload_n 0, 1) := by decide +kernel
theorem dX2_missed_6 : decode cX2_missed 6 = .ok (.iload_n 1, 1) := by decide +kernel
theorem dX2_missed_7 : decode cX2_missed 7 = .ok (.invokevirtual 166, 3) := by decide +kernel
theorem dX2_missed_10 : decode cX2_missed 10 = .ok (.ifCond .ne 17, 3) := by decide +kernel
theorem dX2_missed_13 : decode cX2_missed 13 = .ok (.iload_n 2, 1) := by decide +kernel
theorem dX2_missed_14 : decode cX2_missed 14 = .ok (.bipush (-9), 2) := by decide +kernel
theorem dX2_missed_16 : decode cX2_missed 16 = .ok (.if_icmp .eq 15, 3) := by decide +kernel
theorem dX2_missed_19 : decode cX2_missed 19 = .ok (.aload_n 0, 1) := by decide +kernel
theorem dX2_missed_20 : decode cX2_missed 20 = .ok (.iload_n 2, 1) := by decide +kernel
theorem dX2_missed_21 : decode cX2_missed 21 = .ok (.invokevirtual 91, 3) := by decide +kernel
theorem dX2_missed_24 : decode cX2_missed 24 = .ok (.ifCond .eq 7, 3) := by decide +kernel
theorem dX2_missed_27 : decode cX2_missed 27 = .ok (.iconst (-1), 1) := by decide +kernel
theorem dX2_missed_28 : decode cX2_missed 28 = .ok (.goto 9, 3) := by decide +kernel
theorem dX2_missed_31 : decode cX2_missed 31 = .ok (.aload_n 0, 1) := by decide +kernel
theorem dX2_missed_32 : decode cX2_missed 32 = .ok (.iload_n 1, 1) := by decide +kernel
theorem dX2_missed_33 : decode cX2_missed 33 = .ok (.iload_n 2, 1) := by decide +kernel
theorem dX2_missed_34 : decode cX2_missed 34 = .ok (.invokevirtual 178, 3) := by decide +kernel
theorem dX2_missed_37 : decode cX2_missed 37 = .ok (.ireturn, 1) := by decide +kernel
set_option maxRecDepth 20000 in
theorem ggX2_review_X2_noSeat : GoodIn wsX2_review wsX2_noSeat := goodIn_r _ [8, 9, 10, 23, 24, 25, 26, 27, 28, 29, 30, 31, 32, 33, 34, 35, 36, 37, 38, 39, 40, 41, 42, 43] (by decide +kernel) (by decide +kernel)
set_option maxRecDepth 20000 in
theorem gX2_review_X2_noSeat : GoodIn wsX2_review (wsV RX2 166 RX2 yX2_noSeat wsX2_noSeat) := goodIn_app (goodIn_of _ (by decide +kernel)) ggX2_review_X2_noSeat
set_option maxRecDepth 20000 in
theorem ggX2_review_X2_noKind : GoodIn wsX2_review wsX2_noKind := goodIn_r _ [14, 3, 15, 16, 7, 17, 23, 24, 25, 26, 27, 28, 29, 30, 31, 32, 33, 34, 35, 36, 37, 38, 39, 40, 41, 42, 43] (by decide +kernel) (by decide +kernel)
set_option maxRecDepth 20000 in
theorem gX2_review_X2_noKind : GoodIn wsX2_review (wsV RX2 91 RX2 yX2_noKind wsX2_noKind) := goodIn_app (goodIn_of _ (by decide +kernel)) ggX2_review_X2_noKind
set_option maxRecDepth 20000 in
theorem ggX2_review_X2_in : GoodIn wsX2_review wsX2_in := goodIn_r _ [17] (by decide +kernel) (by decide +kernel)
set_option maxRecDepth 20000 in
theorem gX2_review_X2_in : GoodIn wsX2_review (va_wsS RX2 65 yX2_in wsX2_in) := goodIn_app (goodIn_of _ (by decide +kernel)) ggX2_review_X2_in
set_option maxRecDepth 20000 in
theorem ggX2_review_X2_missedOf : GoodIn wsX2_review wsX2_missedOf := goodIn_r _ [21, 22, 23, 24, 25, 26, 27, 28, 29, 30, 31, 32, 33, 34, 35, 36, 37, 38, 39, 40, 41, 42, 43] (by decide +kernel) (by decide +kernel)
set_option maxRecDepth 20000 in
theorem gX2_review_X2_missedOf : GoodIn wsX2_review (wsV RX2 178 RX2 yX2_missedOf wsX2_missedOf) := goodIn_app (goodIn_of _ (by decide +kernel)) ggX2_review_X2_missedOf
theorem dX2_review_0 : decode cX2_review 0 = .ok (.aload_n 0, 1) := by decide +kernel
theorem dX2_review_1 : decode cX2_review 1 = .ok (.iconst 0, 1) := by decide +kernel
theorem dX2_review_2 : decode cX2_review 2 = .ok (.putfield 59, 3) := by decide +kernel
theorem dX2_review_5 : decode cX2_review 5 = .ok (.aload_n 0, 1) := by decide +kernel
theorem dX2_review_6 : decode cX2_review 6 = .ok (.iload_n 1, 1) := by decide +kernel
theorem dX2_review_7 : decode cX2_review 7 = .ok (.invokevirtual 166, 3) := by decide +kernel
theorem dX2_review_10 : decode cX2_review 10 = .ok (.ifCond .ne 11, 3) := by decide +kernel
theorem dX2_review_13 : decode cX2_review 13 = .ok (.aload_n 0, 1) := by decide +kernel
theorem dX2_review_14 : decode cX2_review 14 = .ok (.iload_n 3, 1) := by decide +kernel
theorem dX2_review_15 : decode cX2_review 15 = .ok (.invokevirtual 91, 3) := by decide +kernel
theorem dX2_review_18 : decode cX2_review 18 = .ok (.ifCond .eq 5, 3) := by decide +kernel
theorem dX2_review_21 : decode cX2_review 21 = .ok (.iconst (-1), 1) := by decide +kernel
theorem dX2_review_22 : decode cX2_review 22 = .ok (.ireturn, 1) := by decide +kernel
theorem dX2_review_23 : decode cX2_review 23 = .ok (.iload_n 2, 1) := by decide +kernel
theorem dX2_review_24 : decode cX2_review 24 = .ok (.i2l, 1) := by decide +kernel
theorem dX2_review_25 : decode cX2_review 25 = .ok (.lconst 1, 1) := by decide +kernel
theorem dX2_review_26 : decode cX2_review 26 = .ok (.ldc2_w 181, 3) := by decide +kernel
theorem dX2_review_29 : decode cX2_review 29 = .ok (.invokestatic 65, 3) := by decide +kernel
theorem dX2_review_32 : decode cX2_review 32 = .ok (.ifCond .ne 6, 3) := by decide +kernel
theorem dX2_review_35 : decode cX2_review 35 = .ok (.bipush (-2), 2) := by decide +kernel
theorem dX2_review_37 : decode cX2_review 37 = .ok (.ireturn, 1) := by decide +kernel
theorem dX2_review_38 : decode cX2_review 38 = .ok (.aload_n 0, 1) := by decide +kernel
theorem dX2_review_39 : decode cX2_review 39 = .ok (.iload_n 1, 1) := by decide +kernel
theorem dX2_review_40 : decode cX2_review 40 = .ok (.bipush (-9), 2) := by decide +kernel
theorem dX2_review_42 : decode cX2_review 42 = .ok (.invokevirtual 178, 3) := by decide +kernel
theorem dX2_review_45 : decode cX2_review 45 = .ok (.istore 4, 2) := by decide +kernel
theorem dX2_review_47 : decode cX2_review 47 = .ok (.iload 4, 2) := by decide +kernel
theorem dX2_review_49 : decode cX2_review 49 = .ok (.ifCond .ne 6, 3) := by decide +kernel
theorem dX2_review_52 : decode cX2_review 52 = .ok (.bipush (-3), 2) := by decide +kernel
theorem dX2_review_54 : decode cX2_review 54 = .ok (.ireturn, 1) := by decide +kernel
theorem dX2_review_55 : decode cX2_review 55 = .ok (.iload_n 2, 1) := by decide +kernel
theorem dX2_review_56 : decode cX2_review 56 = .ok (.istore 5, 2) := by decide +kernel
theorem dX2_review_58 : decode cX2_review 58 = .ok (.iconst 0, 1) := by decide +kernel
theorem dX2_review_59 : decode cX2_review 59 = .ok (.istore 6, 2) := by decide +kernel
theorem dX2_review_61 : decode cX2_review 61 = .ok (.iload_n 2, 1) := by decide +kernel
theorem dX2_review_62 : decode cX2_review 62 = .ok (.aload_n 0, 1) := by decide +kernel
theorem dX2_review_63 : decode cX2_review 63 = .ok (.iload_n 1, 1) := by decide +kernel
theorem dX2_review_64 : decode cX2_review 64 = .ok (.iload_n 3, 1) := by decide +kernel
theorem dX2_review_65 : decode cX2_review 65 = .ok (.invokevirtual 178, 3) := by decide +kernel
theorem dX2_review_68 : decode cX2_review 68 = .ok (.imul, 1) := by decide +kernel
theorem dX2_review_69 : decode cX2_review 69 = .ok (.iload 4, 2) := by decide +kernel
theorem dX2_review_71 : decode cX2_review 71 = .ok (.irem, 1) := by decide +kernel
theorem dX2_review_72 : decode cX2_review 72 = .ok (.istore 7, 2) := by decide +kernel
theorem dX2_review_74 : decode cX2_review 74 = .ok (.iconst 0, 1) := by decide +kernel
theorem dX2_review_75 : decode cX2_review 75 = .ok (.istore 8, 2) := by decide +kernel
theorem dX2_review_77 : decode cX2_review 77 = .ok (.iload 8, 2) := by decide +kernel
theorem dX2_review_79 : decode cX2_review 79 = .ok (.aload_n 0, 1) := by decide +kernel
theorem dX2_review_80 : decode cX2_review 80 = .ok (.getfield 62, 3) := by decide +kernel
theorem dX2_review_83 : decode cX2_review 83 = .ok (.if_icmp .ge 70, 3) := by decide +kernel
theorem dX2_review_86 : decode cX2_review 86 = .ok (.iload_n 2, 1) := by decide +kernel
theorem dX2_review_87 : decode cX2_review 87 = .ok (.aload_n 0, 1) := by decide +kernel
theorem dX2_review_88 : decode cX2_review 88 = .ok (.iload_n 1, 1) := by decide +kernel
theorem dX2_review_89 : decode cX2_review 89 = .ok (.iload 8, 2) := by decide +kernel
theorem dX2_review_91 : decode cX2_review 91 = .ok (.invokevirtual 178, 3) := by decide +kernel
theorem dX2_review_94 : decode cX2_review 94 = .ok (.imul, 1) := by decide +kernel
theorem dX2_review_95 : decode cX2_review 95 = .ok (.iload 4, 2) := by decide +kernel
theorem dX2_review_97 : decode cX2_review 97 = .ok (.irem, 1) := by decide +kernel
theorem dX2_review_98 : decode cX2_review 98 = .ok (.istore 9, 2) := by decide +kernel
theorem dX2_review_100 : decode cX2_review 100 = .ok (.iload 5, 2) := by decide +kernel
theorem dX2_review_102 : decode cX2_review 102 = .ok (.iload_n 2, 1) := by decide +kernel
theorem dX2_review_103 : decode cX2_review 103 = .ok (.aload_n 0, 1) := by decide +kernel
theorem dX2_review_104 : decode cX2_review 104 = .ok (.iload_n 1, 1) := by decide +kernel
theorem dX2_review_105 : decode cX2_review 105 = .ok (.iload 8, 2) := by decide +kernel
theorem dX2_review_107 : decode cX2_review 107 = .ok (.invokevirtual 178, 3) := by decide +kernel
theorem dX2_review_110 : decode cX2_review 110 = .ok (.imul, 1) := by decide +kernel
theorem dX2_review_111 : decode cX2_review 111 = .ok (.iload 4, 2) := by decide +kernel
theorem dX2_review_113 : decode cX2_review 113 = .ok (.idiv, 1) := by decide +kernel
theorem dX2_review_114 : decode cX2_review 114 = .ok (.isub, 1) := by decide +kernel
theorem dX2_review_115 : decode cX2_review 115 = .ok (.istore 5, 2) := by decide +kernel
theorem dX2_review_117 : decode cX2_review 117 = .ok (.iload 6, 2) := by decide +kernel
theorem dX2_review_119 : decode cX2_review 119 = .ok (.iload 9, 2) := by decide +kernel
theorem dX2_review_121 : decode cX2_review 121 = .ok (.iload 7, 2) := by decide +kernel
theorem dX2_review_123 : decode cX2_review 123 = .ok (.if_icmp .gt 16, 3) := by decide +kernel
theorem dX2_review_126 : decode cX2_review 126 = .ok (.iload 9, 2) := by decide +kernel
theorem dX2_review_128 : decode cX2_review 128 = .ok (.iload 7, 2) := by decide +kernel
theorem dX2_review_130 : decode cX2_review 130 = .ok (.if_icmp .ne 13, 3) := by decide +kernel
theorem dX2_review_133 : decode cX2_review 133 = .ok (.iload 8, 2) := by decide +kernel
theorem dX2_review_135 : decode cX2_review 135 = .ok (.iload_n 3, 1) := by decide +kernel
theorem dX2_review_136 : decode cX2_review 136 = .ok (.if_icmp .ge 7, 3) := by decide +kernel
theorem dX2_review_139 : decode cX2_review 139 = .ok (.iconst 1, 1) := by decide +kernel
theorem dX2_review_140 : decode cX2_review 140 = .ok (.goto 4, 3) := by decide +kernel
theorem dX2_review_143 : decode cX2_review 143 = .ok (.iconst 0, 1) := by decide +kernel
theorem dX2_review_144 : decode cX2_review 144 = .ok (.iadd, 1) := by decide +kernel
theorem dX2_review_145 : decode cX2_review 145 = .ok (.istore 6, 2) := by decide +kernel
theorem dX2_review_147 : decode cX2_review 147 = .ok (.iinc 8 1, 3) := by decide +kernel
theorem dX2_review_150 : decode cX2_review 150 = .ok (.goto (-73), 3) := by decide +kernel
theorem dX2_review_153 : decode cX2_review 153 = .ok (.iload_n 2, 1) := by decide +kernel
theorem dX2_review_154 : decode cX2_review 154 = .ok (.aload_n 0, 1) := by decide +kernel
theorem dX2_review_155 : decode cX2_review 155 = .ok (.iload_n 1, 1) := by decide +kernel
theorem dX2_review_156 : decode cX2_review 156 = .ok (.iload_n 3, 1) := by decide +kernel
theorem dX2_review_157 : decode cX2_review 157 = .ok (.invokevirtual 178, 3) := by decide +kernel
theorem dX2_review_160 : decode cX2_review 160 = .ok (.imul, 1) := by decide +kernel
theorem dX2_review_161 : decode cX2_review 161 = .ok (.iload 4, 2) := by decide +kernel
theorem dX2_review_163 : decode cX2_review 163 = .ok (.idiv, 1) := by decide +kernel
theorem dX2_review_164 : decode cX2_review 164 = .ok (.iload 7, 2) := by decide +kernel
theorem dX2_review_166 : decode cX2_review 166 = .ok (.ifCond .le 14, 3) := by decide +kernel
theorem dX2_review_169 : decode cX2_review 169 = .ok (.iload 6, 2) := by decide +kernel
theorem dX2_review_171 : decode cX2_review 171 = .ok (.iload 5, 2) := by decide +kernel
theorem dX2_review_173 : decode cX2_review 173 = .ok (.if_icmp .ge 7, 3) := by decide +kernel
theorem dX2_review_176 : decode cX2_review 176 = .ok (.iconst 1, 1) := by decide +kernel
theorem dX2_review_177 : decode cX2_review 177 = .ok (.goto 4, 3) := by decide +kernel
theorem dX2_review_180 : decode cX2_review 180 = .ok (.iconst 0, 1) := by decide +kernel
theorem dX2_review_181 : decode cX2_review 181 = .ok (.iadd, 1) := by decide +kernel
theorem dX2_review_182 : decode cX2_review 182 = .ok (.ireturn, 1) := by decide +kernel
set_option maxRecDepth 20000 in
theorem ggX2_all_X2_noKind : GoodIn wsX2_all wsX2_noKind := goodIn_r _ [7, 8, 9, 10, 6, 11, 12, 13, 14, 15, 16, 17, 18, 19, 20, 21, 22, 23, 24, 25, 26, 27, 28, 29, 30, 31, 32] (by decide +kernel) (by decide +kernel)
set_option maxRecDepth 20000 in
theorem gX2_all_X2_noKind : GoodIn wsX2_all (wsV RX2 91 RX2 yX2_noKind wsX2_noKind) := goodIn_app (goodIn_of _ (by decide +kernel)) ggX2_all_X2_noKind
theorem dX2_all_0 : decode cX2_all 0 = .ok (.aload_n 0, 1) := by decide +kernel
theorem dX2_all_1 : decode cX2_all 1 = .ok (.iconst 0, 1) := by decide +kernel
theorem dX2_all_2 : decode cX2_all 2 = .ok (.putfield 59, 3) := by decide +kernel
theorem dX2_all_5 : decode cX2_all 5 = .ok (.aload_n 0, 1) := by decide +kernel
theorem dX2_all_6 : decode cX2_all 6 = .ok (.iload_n 1, 1) := by decide +kernel
theorem dX2_all_7 : decode cX2_all 7 = .ok (.invokevirtual 91, 3) := by decide +kernel
theorem dX2_all_10 : decode cX2_all 10 = .ok (.ifCond .eq 5, 3) := by decide +kernel
theorem dX2_all_13 : decode cX2_all 13 = .ok (.iconst (-1), 1) := by decide +kernel
theorem dX2_all_14 : decode cX2_all 14 = .ok (.ireturn, 1) := by decide +kernel
theorem dX2_all_15 : decode cX2_all 15 = .ok (.iconst 0, 1) := by decide +kernel
theorem dX2_all_16 : decode cX2_all 16 = .ok (.istore_n 2, 1) := by decide +kernel
theorem dX2_all_17 : decode cX2_all 17 = .ok (.iconst 0, 1) := by decide +kernel
theorem dX2_all_18 : decode cX2_all 18 = .ok (.istore_n 3, 1) := by decide +kernel
theorem dX2_all_19 : decode cX2_all 19 = .ok (.iload_n 3, 1) := by decide +kernel
theorem dX2_all_20 : decode cX2_all 20 = .ok (.bipush 64, 2) := by decide +kernel
theorem dX2_all_22 : decode cX2_all 22 = .ok (.if_icmp .ge 23, 3) := by decide +kernel
theorem dX2_all_25 : decode cX2_all 25 = .ok (.iload_n 2, 1) := by decide +kernel
theorem dX2_all_26 : decode cX2_all 26 = .ok (.aload_n 0, 1) := by decide +kernel
theorem dX2_all_27 : decode cX2_all 27 = .ok (.getfield 56, 3) := by decide +kernel
theorem dX2_all_30 : decode cX2_all 30 = .ok (.bipush 8, 2) := by decide +kernel
theorem dX2_all_32 : decode cX2_all 32 = .ok (.iload_n 3, 1) := by decide +kernel
theorem dX2_all_33 : decode cX2_all 33 = .ok (.imul, 1) := by decide +kernel
theorem dX2_all_34 : decode cX2_all 34 = .ok (.iload_n 1, 1) := by decide +kernel
theorem dX2_all_35 : decode cX2_all 35 = .ok (.iadd, 1) := by decide +kernel
theorem dX2_all_36 : decode cX2_all 36 = .ok (.iaload, 1) := by decide +kernel
theorem dX2_all_37 : decode cX2_all 37 = .ok (.iadd, 1) := by decide +kernel
theorem dX2_all_38 : decode cX2_all 38 = .ok (.istore_n 2, 1) := by decide +kernel
theorem dX2_all_39 : decode cX2_all 39 = .ok (.iinc 3 1, 3) := by decide +kernel
theorem dX2_all_42 : decode cX2_all 42 = .ok (.goto (-23), 3) := by decide +kernel
theorem dX2_all_45 : decode cX2_all 45 = .ok (.iload_n 2, 1) := by decide +kernel
theorem dX2_all_46 : decode cX2_all 46 = .ok (.ireturn, 1) := by decide +kernel
theorem dX2_total_0 : decode cX2_total 0 = .ok (.aload_n 0, 1) := by decide +kernel
theorem dX2_total_1 : decode cX2_total 1 = .ok (.iconst 0, 1) := by decide +kernel
theorem dX2_total_2 : decode cX2_total 2 = .ok (.putfield 59, 3) := by decide +kernel
theorem dX2_total_5 : decode cX2_total 5 = .ok (.iload_n 1, 1) := by decide +kernel
theorem dX2_total_6 : decode cX2_total 6 = .ok (.ifCond .ne 10, 3) := by decide +kernel
theorem dX2_total_9 : decode cX2_total 9 = .ok (.aload_n 0, 1) := by decide +kernel
theorem dX2_total_10 : decode cX2_total 10 = .ok (.getfield 62, 3) := by decide +kernel
theorem dX2_total_13 : decode cX2_total 13 = .ok (.goto 58, 3) := by decide +kernel
theorem dX2_total_16 : decode cX2_total 16 = .ok (.iload_n 1, 1) := by decide +kernel
theorem dX2_total_17 : decode cX2_total 17 = .ok (.iconst 1, 1) := by decide +kernel
theorem dX2_total_18 : decode cX2_total 18 = .ok (.if_icmp .ne 10, 3) := by decide +kernel
theorem dX2_total_21 : decode cX2_total 21 = .ok (.aload_n 0, 1) := by decide +kernel
theorem dX2_total_22 : decode cX2_total 22 = .ok (.getfield 69, 3) := by decide +kernel
theorem dX2_total_25 : decode cX2_total 25 = .ok (.goto 46, 3) := by decide +kernel
theorem dX2_total_28 : decode cX2_total 28 = .ok (.iload_n 1, 1) := by decide +kernel
theorem dX2_total_29 : decode cX2_total 29 = .ok (.iconst 2, 1) := by decide +kernel
theorem dX2_total_30 : decode cX2_total 30 = .ok (.if_icmp .ne 15, 3) := by decide +kernel
theorem dX2_total_33 : decode cX2_total 33 = .ok (.aload_n 0, 1) := by decide +kernel
theorem dX2_total_34 : decode cX2_total 34 = .ok (.getfield 47, 3) := by decide +kernel
theorem dX2_total_37 : decode cX2_total 37 = .ok (.aload_n 0, 1) := by decide +kernel
theorem dX2_total_38 : decode cX2_total 38 = .ok (.getfield 50, 3) := by decide +kernel
theorem dX2_total_41 : decode cX2_total 41 = .ok (.imul, 1) := by decide +kernel
theorem dX2_total_42 : decode cX2_total 42 = .ok (.goto 29, 3) := by decide +kernel
theorem dX2_total_45 : decode cX2_total 45 = .ok (.iload_n 1, 1) := by decide +kernel
theorem dX2_total_46 : decode cX2_total 46 = .ok (.iconst 3, 1) := by decide +kernel
theorem dX2_total_47 : decode cX2_total 47 = .ok (.if_icmp .ne 10, 3) := by decide +kernel
theorem dX2_total_50 : decode cX2_total 50 = .ok (.aload_n 0, 1) := by decide +kernel
theorem dX2_total_51 : decode cX2_total 51 = .ok (.getfield 172, 3) := by decide +kernel
theorem dX2_total_54 : decode cX2_total 54 = .ok (.goto 17, 3) := by decide +kernel
theorem dX2_total_57 : decode cX2_total 57 = .ok (.iload_n 1, 1) := by decide +kernel
theorem dX2_total_58 : decode cX2_total 58 = .ok (.iconst 4, 1) := by decide +kernel
theorem dX2_total_59 : decode cX2_total 59 = .ok (.if_icmp .ne 10, 3) := by decide +kernel
theorem dX2_total_62 : decode cX2_total 62 = .ok (.aload_n 0, 1) := by decide +kernel
theorem dX2_total_63 : decode cX2_total 63 = .ok (.getfield 175, 3) := by decide +kernel
theorem dX2_total_66 : decode cX2_total 66 = .ok (.goto 5, 3) := by decide +kernel
theorem dX2_total_69 : decode cX2_total 69 = .ok (.bipush (-2), 2) := by decide +kernel
theorem dX2_total_71 : decode cX2_total 71 = .ok (.ireturn, 1) := by decide +kernel
theorem dJ9_floorMod_7cf53_0 : decode cJ9_floorMod_7cf53 0 = .ok (.iload_n 0, 1) := by decide +kernel
theorem dJ9_floorMod_7cf53_1 : decode cJ9_floorMod_7cf53 1 = .ok (.iload_n 1, 1) := by decide +kernel
theorem dJ9_floorMod_7cf53_2 : decode cJ9_floorMod_7cf53 2 = .ok (.irem, 1) := by decide +kernel
theorem dJ9_floorMod_7cf53_3 : decode cJ9_floorMod_7cf53 3 = .ok (.istore_n 2, 1) := by decide +kernel
theorem dJ9_floorMod_7cf53_4 : decode cJ9_floorMod_7cf53 4 = .ok (.iload_n 0, 1) := by decide +kernel
theorem dJ9_floorMod_7cf53_5 : decode cJ9_floorMod_7cf53 5 = .ok (.iload_n 1, 1) := by decide +kernel
theorem dJ9_floorMod_7cf53_6 : decode cJ9_floorMod_7cf53 6 = .ok (.ixor, 1) := by decide +kernel
theorem dJ9_floorMod_7cf53_7 : decode cJ9_floorMod_7cf53 7 = .ok (.ifCond .ge 11, 3) := by decide +kernel
theorem dJ9_floorMod_7cf53_10 : decode cJ9_floorMod_7cf53 10 = .ok (.iload_n 2, 1) := by decide +kernel
theorem dJ9_floorMod_7cf53_11 : decode cJ9_floorMod_7cf53 11 = .ok (.ifCond .eq 7, 3) := by decide +kernel
theorem dJ9_floorMod_7cf53_14 : decode cJ9_floorMod_7cf53 14 = .ok (.iload_n 2, 1) := by decide +kernel
theorem dJ9_floorMod_7cf53_15 : decode cJ9_floorMod_7cf53 15 = .ok (.iload_n 1, 1) := by decide +kernel
theorem dJ9_floorMod_7cf53_16 : decode cJ9_floorMod_7cf53 16 = .ok (.iadd, 1) := by decide +kernel
theorem dJ9_floorMod_7cf53_17 : decode cJ9_floorMod_7cf53 17 = .ok (.ireturn, 1) := by decide +kernel
theorem dJ9_floorMod_7cf53_18 : decode cJ9_floorMod_7cf53 18 = .ok (.iload_n 2, 1) := by decide +kernel
theorem dJ9_floorMod_7cf53_19 : decode cJ9_floorMod_7cf53 19 = .ok (.ireturn, 1) := by decide +kernel
theorem dJ9_abs_0f7a4_0 : decode cJ9_abs_0f7a4 0 = .ok (.iload_n 0, 1) := by decide +kernel
theorem dJ9_abs_0f7a4_1 : decode cJ9_abs_0f7a4 1 = .ok (.ifCond .ge 8, 3) := by decide +kernel
theorem dJ9_abs_0f7a4_4 : decode cJ9_abs_0f7a4 4 = .ok (.iload_n 0, 1) := by decide +kernel
theorem dJ9_abs_0f7a4_5 : decode cJ9_abs_0f7a4 5 = .ok (.ineg, 1) := by decide +kernel
theorem dJ9_abs_0f7a4_6 : decode cJ9_abs_0f7a4 6 = .ok (.goto 4, 3) := by decide +kernel
theorem dJ9_abs_0f7a4_9 : decode cJ9_abs_0f7a4 9 = .ok (.iload_n 0, 1) := by decide +kernel
theorem dJ9_abs_0f7a4_10 : decode cJ9_abs_0f7a4 10 = .ok (.ireturn, 1) := by decide +kernel
theorem dJ9_min_7cf53_0 : decode cJ9_min_7cf53 0 = .ok (.iload_n 0, 1) := by decide +kernel
theorem dJ9_min_7cf53_1 : decode cJ9_min_7cf53 1 = .ok (.iload_n 1, 1) := by decide +kernel
theorem dJ9_min_7cf53_2 : decode cJ9_min_7cf53 2 = .ok (.if_icmp .gt 7, 3) := by decide +kernel
theorem dJ9_min_7cf53_5 : decode cJ9_min_7cf53 5 = .ok (.iload_n 0, 1) := by decide +kernel
theorem dJ9_min_7cf53_6 : decode cJ9_min_7cf53 6 = .ok (.goto 4, 3) := by decide +kernel
theorem dJ9_min_7cf53_9 : decode cJ9_min_7cf53 9 = .ok (.iload_n 1, 1) := by decide +kernel
theorem dJ9_min_7cf53_10 : decode cJ9_min_7cf53 10 = .ok (.ireturn, 1) := by decide +kernel
set_option maxRecDepth 20000 in
theorem ggL_law_X1_init : GoodIn wsL_law wsX1_init := goodIn_r _ [8, 9, 10, 11, 12, 13, 14, 15, 16, 17, 18, 19, 20, 21, 22, 23, 24, 25, 26, 27, 28, 29, 30, 31, 32, 33, 34, 35, 36, 37, 38, 567, 568, 569, 570, 571, 572, 573, 574, 575, 576, 577, 578, 600, 601, 602, 603, 604, 605, 606] (by decide +kernel) (by decide +kernel)
set_option maxRecDepth 20000 in
theorem gL_law_X1_init : GoodIn wsL_law (wsX1_init) := ggL_law_X1_init
set_option maxRecDepth 20000 in
theorem ggL_law_X2_init : GoodIn wsL_law wsX2_init := goodIn_r _ [41, 42, 10, 11, 15, 43, 44, 45, 46, 47, 48, 49, 50, 51, 52, 53, 54, 55, 56, 57, 58, 59, 60, 579, 580, 581, 582, 583, 584, 585, 586, 587, 588, 589, 590, 591, 592, 593, 594, 595, 596, 597, 598, 599] (by decide +kernel) (by decide +kernel)
set_option maxRecDepth 20000 in
theorem gL_law_X2_init : GoodIn wsL_law (wsX2_init) := ggL_law_X2_init
set_option maxRecDepth 20000 in
theorem ggL_law_X1_kind : GoodIn wsL_law wsX1_kind := goodIn_r _ [64, 14, 13, 65, 66, 67, 27, 68, 32, 69, 70, 71, 72, 37, 33, 34, 36, 73, 74, 75, 76, 77, 78, 79, 80, 35, 81, 82, 83, 84, 85, 86, 87, 88, 89, 90, 91, 92, 567, 568, 569, 570, 571, 572, 573, 574, 575, 576, 577, 578, 600, 601, 602, 603, 604, 605, 606] (by decide +kernel) (by decide +kernel)
set_option maxRecDepth 20000 in
theorem gL_law_X1_kind : GoodIn wsL_law (wsV RL 13 RX1 yX1_kind wsX1_kind) := goodIn_app (goodIn_of _ (by decide +kernel)) ggL_law_X1_kind
set_option maxRecDepth 20000 in
theorem ggL_law_X2_kind : GoodIn wsL_law wsX2_kind := goodIn_r _ [96, 97, 98, 99, 43, 45, 47, 100, 101, 5, 102, 579, 580, 581, 582, 583, 584, 585, 586, 587, 588, 589, 590, 591, 592, 593, 594, 595, 596, 597, 598, 599] (by decide +kernel) (by decide +kernel)
set_option maxRecDepth 20000 in
theorem gL_law_X2_kind : GoodIn wsL_law (wsV RL 17 RX2 yX2_kind wsX2_kind) := goodIn_app (goodIn_of _ (by decide +kernel)) ggL_law_X2_kind
set_option maxRecDepth 20000 in
theorem ggL_law_X1_range : GoodIn wsL_law wsX1_range := goodIn_r _ [106, 13, 107, 108, 109, 2, 110, 14, 111, 112, 27, 113, 114, 115, 116, 117, 118, 33, 34, 69, 70, 71, 72, 37, 36, 73, 74, 75, 76, 77, 78, 79, 80, 35, 81, 82, 83, 84, 32, 85, 86, 87, 88, 89, 90, 91, 92, 119, 120, 121, 122, 567, 568, 569, 570, 571, 572, 573, 574, 575, 576, 577, 578, 600, 601, 602, 603, 604, 605, 606] (by decide +kernel) (by decide +kernel)
set_option maxRecDepth 20000 in
theorem gL_law_X1_range : GoodIn wsL_law (wsV RL 18 RX1 yX1_range wsX1_range) := goodIn_app (goodIn_of _ (by decide +kernel)) ggL_law_X1_range
set_option maxRecDepth 20000 in
theorem ggL_law_X2_range : GoodIn wsL_law wsX2_range := goodIn_r _ [126, 97, 127, 44, 45, 50, 128, 129, 130, 5, 131, 99, 100, 101, 102, 132, 133, 134, 135, 54, 51, 136, 137, 138, 139, 43, 46, 140, 141, 142, 143, 144, 145, 146, 147, 148, 149, 150, 579, 580, 581, 582, 583, 584, 585, 586, 587, 588, 589, 590, 591, 592, 593, 594, 595, 596, 597, 598, 599] (by decide +kernel) (by decide +kernel)
set_option maxRecDepth 20000 in
theorem gL_law_X2_range : GoodIn wsL_law (wsV RL 22 RX2 yX2_range wsX2_range) := goodIn_app (goodIn_of _ (by decide +kernel)) ggL_law_X2_range
set_option maxRecDepth 20000 in
theorem ggL_law_X1_rule : GoodIn wsL_law wsX1_rule := goodIn_r _ [154, 13, 107, 108, 109, 2, 110, 14, 155, 156, 27, 157, 158, 159, 160, 161, 162, 163, 35, 69, 70, 71, 72, 37, 33, 34, 36, 73, 74, 75, 76, 77, 78, 79, 80, 81, 82, 83, 84, 32, 85, 86, 87, 88, 89, 90, 91, 92, 567, 568, 569, 570, 571, 572, 573, 574, 575, 576, 577, 578, 600, 601, 602, 603, 604, 605, 606] (by decide +kernel) (by decide +kernel)
set_option maxRecDepth 20000 in
theorem gL_law_X1_rule : GoodIn wsL_law (wsV RL 23 RX1 yX1_rule wsX1_rule) := goodIn_app (goodIn_of _ (by decide +kernel)) ggL_law_X1_rule
set_option maxRecDepth 20000 in
theorem ggL_law_X2_rule : GoodIn wsL_law wsX2_rule := goodIn_r _ [167, 97, 98, 168, 169, 46, 47, 48, 50, 128, 129, 130, 5, 131, 99, 100, 101, 102, 579, 580, 581, 582, 583, 584, 585, 586, 587, 588, 589, 590, 591, 592, 593, 594, 595, 596, 597, 598, 599] (by decide +kernel) (by decide +kernel)
set_option maxRecDepth 20000 in
theorem gL_law_X2_rule : GoodIn wsL_law (wsV RL 27 RX2 yX2_rule wsX2_rule) := goodIn_app (goodIn_of _ (by decide +kernel)) ggL_law_X2_rule
set_option maxRecDepth 20000 in
theorem ggL_law_X1_variants : GoodIn wsL_law wsX1_variants := goodIn_r _ [173, 13, 107, 108, 109, 2, 110, 14, 119, 120, 121, 27, 122, 37, 567, 568, 569, 570, 571, 572, 573, 574, 575, 576, 577, 578, 600, 601, 602, 603, 604, 605, 606] (by decide +kernel) (by decide +kernel)
set_option maxRecDepth 20000 in
theorem gL_law_X1_variants : GoodIn wsL_law (wsV RL 28 RX1 yX1_variants wsX1_variants) := goodIn_app (goodIn_of _ (by decide +kernel)) ggL_law_X1_variants
set_option maxRecDepth 20000 in
theorem ggL_law_X2_variants : GoodIn wsL_law wsX2_variants := goodIn_r _ [177, 97, 128, 129, 130, 5, 131, 99, 100, 101, 102, 132, 133, 134, 135, 50, 44, 45, 54, 51, 136, 137, 138, 139, 43, 46, 140, 141, 142, 143, 144, 145, 146, 147, 148, 149, 150, 579, 580, 581, 582, 583, 584, 585, 586, 587, 588, 589, 590, 591, 592, 593, 594, 595, 596, 597, 598, 599] (by decide +kernel) (by decide +kernel)
set_option maxRecDepth 20000 in
theorem gL_law_X2_variants : GoodIn wsL_law (wsV RL 31 RX2 yX2_variants wsX2_variants) := goodIn_app (goodIn_of _ (by decide +kernel)) ggL_law_X2_variants
set_option maxRecDepth 20000 in
theorem ggL_law_X1_variant : GoodIn wsL_law wsX1_variant := goodIn_r _ [181, 13, 182, 183, 184, 2, 185, 107, 108, 109, 110, 14, 119, 120, 121, 27, 122, 37, 186, 187, 188, 189, 33, 34, 36, 77, 78, 79, 80, 35, 81, 82, 83, 84, 32, 85, 86, 87, 88, 89, 90, 91, 92, 190, 191, 567, 568, 569, 570, 571, 572, 573, 574, 575, 576, 577, 578, 600, 601, 602, 603, 604, 605, 606] (by decide +kernel) (by decide +kernel)
set_option maxRecDepth 20000 in
theorem gL_law_X1_variant : GoodIn wsL_law (wsV RL 32 RX1 yX1_variant wsX1_variant) := goodIn_app (goodIn_of _ (by decide +kernel)) ggL_law_X1_variant
set_option maxRecDepth 20000 in
theorem ggL_law_X2_variant : GoodIn wsL_law wsX2_variant := goodIn_r _ [195, 97, 43, 196, 197, 198, 5, 199, 128, 129, 130, 131, 99, 100, 101, 102, 132, 133, 134, 135, 50, 44, 45, 54, 51, 136, 137, 138, 139, 46, 140, 141, 142, 143, 144, 145, 146, 147, 148, 149, 150, 200, 201, 202, 203, 579, 580, 581, 582, 583, 584, 585, 586, 587, 588, 589, 590, 591, 592, 593, 594, 595, 596, 597, 598, 599] (by decide +kernel) (by decide +kernel)
set_option maxRecDepth 20000 in
theorem gL_law_X2_variant : GoodIn wsL_law (wsV RL 35 RX2 yX2_variant wsX2_variant) := goodIn_app (goodIn_of _ (by decide +kernel)) ggL_law_X2_variant
set_option maxRecDepth 20000 in
theorem ggL_law_X1_find : GoodIn wsL_law wsX1_find := goodIn_r _ [207, 13, 107, 108, 109, 2, 110, 14, 208, 209, 210, 27, 211, 33, 34, 36, 77, 78, 79, 80, 35, 81, 82, 83, 84, 32, 85, 86, 87, 88, 89, 90, 91, 92, 73, 74, 75, 76, 567, 568, 569, 570, 571, 572, 573, 574, 575, 576, 577, 578, 600, 601, 602, 603, 604, 605, 606] (by decide +kernel) (by decide +kernel)
set_option maxRecDepth 20000 in
theorem gL_law_X1_find : GoodIn wsL_law (wsV RL 36 RX1 yX1_find wsX1_find) := goodIn_app (goodIn_of _ (by decide +kernel)) ggL_law_X1_find
set_option maxRecDepth 20000 in
theorem ggL_law_X2_find : GoodIn wsL_law wsX2_find := goodIn_r _ [215, 97, 128, 129, 130, 5, 131, 99, 100, 101, 102, 132, 133, 134, 135, 50, 44, 45, 54, 51, 136, 137, 138, 139, 43, 46, 140, 141, 142, 143, 144, 145, 146, 147, 148, 149, 150, 200, 201, 202, 203, 579, 580, 581, 582, 583, 584, 585, 586, 587, 588, 589, 590, 591, 592, 593, 594, 595, 596, 597, 598, 599] (by decide +kernel) (by decide +kernel)
set_option maxRecDepth 20000 in
theorem gL_law_X2_find : GoodIn wsL_law (wsV RL 39 RX2 yX2_find wsX2_find) := goodIn_app (goodIn_of _ (by decide +kernel)) ggL_law_X2_find
set_option maxRecDepth 20000 in
theorem ggL_law_X1_slip : GoodIn wsL_law wsX1_slip := goodIn_r _ [219, 13, 182, 183, 184, 2, 185, 107, 108, 109, 110, 14, 119, 120, 121, 27, 122, 37, 186, 187, 188, 189, 33, 34, 36, 77, 78, 79, 80, 35, 81, 82, 83, 84, 32, 85, 86, 87, 88, 89, 90, 91, 92, 220, 221, 222, 223, 224, 225, 226, 227, 228, 229, 230, 231, 232, 233, 234, 567, 568, 569, 570, 571, 572, 573, 574, 575, 576, 577, 578, 600, 601, 602, 603, 604, 605, 606] (by decide +kernel) (by decide +kernel)
set_option maxRecDepth 20000 in
theorem gL_law_X1_slip : GoodIn wsL_law (wsV RL 40 RX1 yX1_slip wsX1_slip) := goodIn_app (goodIn_of _ (by decide +kernel)) ggL_law_X1_slip
set_option maxRecDepth 20000 in
theorem ggL_law_X2_slip : GoodIn wsL_law wsX2_slip := goodIn_r _ [238, 97, 239, 196, 197, 198, 5, 199, 128, 129, 130, 131, 99, 100, 101, 102, 132, 133, 134, 135, 50, 44, 45, 54, 51, 136, 137, 138, 139, 43, 46, 140, 141, 142, 143, 144, 145, 146, 147, 148, 149, 150, 240, 241, 242, 243, 200, 201, 202, 203, 579, 580, 581, 582, 583, 584, 585, 586, 587, 588, 589, 590, 591, 592, 593, 594, 595, 596, 597, 598, 599] (by decide +kernel) (by decide +kernel)
set_option maxRecDepth 20000 in
theorem gL_law_X2_slip : GoodIn wsL_law (wsV RL 43 RX2 yX2_slip wsX2_slip) := goodIn_app (goodIn_of _ (by decide +kernel)) ggL_law_X2_slip
set_option maxRecDepth 20000 in
theorem ggL_law_X1_tells : GoodIn wsL_law wsX1_tells := goodIn_r _ [247, 13, 182, 183, 184, 2, 185, 107, 108, 109, 110, 14, 119, 120, 121, 27, 122, 37, 248, 249, 250, 251, 252, 187, 188, 189, 33, 34, 36, 77, 78, 79, 80, 35, 81, 82, 83, 84, 32, 85, 86, 87, 88, 89, 90, 91, 92, 253, 221, 222, 223, 224, 225, 226, 227, 228, 229, 230, 231, 232, 233, 234, 567, 568, 569, 570, 571, 572, 573, 574, 575, 576, 577, 578, 600, 601, 602, 603, 604, 605, 606] (by decide +kernel) (by decide +kernel)
set_option maxRecDepth 20000 in
theorem gL_law_X1_tells : GoodIn wsL_law (wsV RL 44 RX1 yX1_tells wsX1_tells) := goodIn_app (goodIn_of _ (by decide +kernel)) ggL_law_X1_tells
set_option maxRecDepth 20000 in
theorem ggL_law_X2_tells : GoodIn wsL_law wsX2_tells := goodIn_r _ [257, 97, 196, 197, 198, 5, 199, 128, 129, 130, 131, 99, 100, 101, 102, 132, 133, 134, 135, 50, 44, 45, 54, 51, 136, 137, 138, 139, 43, 46, 140, 141, 142, 143, 144, 145, 146, 147, 148, 149, 150, 258, 259, 260, 261, 262, 263, 264, 265, 200, 201, 202, 203, 240, 241, 242, 243, 579, 580, 581, 582, 583, 584, 585, 586, 587, 588, 589, 590, 591, 592, 593, 594, 595, 596, 597, 598, 599] (by decide +kernel) (by decide +kernel)
set_option maxRecDepth 20000 in
theorem gL_law_X2_tells : GoodIn wsL_law (wsV RL 47 RX2 yX2_tells wsX2_tells) := goodIn_app (goodIn_of _ (by decide +kernel)) ggL_law_X2_tells
set_option maxRecDepth 20000 in
theorem ggL_law_X1_plan : GoodIn wsL_law wsX1_plan := goodIn_r _ [269, 18, 16, 17, 13, 107, 108, 109, 2, 110, 14, 270, 271, 272, 27, 273, 38, 567, 568, 569, 570, 571, 572, 573, 574, 575, 576, 577, 578, 600, 601, 602, 603, 604, 605, 606] (by decide +kernel) (by decide +kernel)
set_option maxRecDepth 20000 in
theorem gL_law_X1_plan : GoodIn wsL_law (wsV RL 48 RX1 yX1_plan wsX1_plan) := goodIn_app (goodIn_of _ (by decide +kernel)) ggL_law_X1_plan
set_option maxRecDepth 20000 in
theorem ggL_law_X2_plan : GoodIn wsL_law wsX2_plan := goodIn_r _ [277, 97, 278, 279, 55, 128, 129, 130, 5, 131, 99, 100, 101, 102, 579, 580, 581, 582, 583, 584, 585, 586, 587, 588, 589, 590, 591, 592, 593, 594, 595, 596, 597, 598, 599] (by decide +kernel) (by decide +kernel)
set_option maxRecDepth 20000 in
theorem gL_law_X2_plan : GoodIn wsL_law (wsV RL 52 RX2 yX2_plan wsX2_plan) := goodIn_app (goodIn_of _ (by decide +kernel)) ggL_law_X2_plan
set_option maxRecDepth 20000 in
theorem ggL_law_X1_clear : GoodIn wsL_law wsX1_clear := goodIn_r _ [283, 18, 14, 13, 284, 285, 286, 27, 287, 38, 567, 568, 569, 570, 571, 572, 573, 574, 575, 576, 577, 578, 600, 601, 602, 603, 604, 605, 606] (by decide +kernel) (by decide +kernel)
set_option maxRecDepth 20000 in
theorem gL_law_X1_clear : GoodIn wsL_law (wsV RL 53 RX1 yX1_clear wsX1_clear) := goodIn_app (goodIn_of _ (by decide +kernel)) ggL_law_X1_clear
set_option maxRecDepth 20000 in
theorem ggL_law_X2_clear : GoodIn wsL_law wsX2_clear := goodIn_r _ [291, 97, 279, 579, 580, 581, 582, 583, 584, 585, 586, 587, 588, 589, 590, 591, 592, 593, 594, 595, 596, 597, 598, 599] (by decide +kernel) (by decide +kernel)
set_option maxRecDepth 20000 in
theorem gL_law_X2_clear : GoodIn wsL_law (wsV RL 57 RX2 yX2_clear wsX2_clear) := goodIn_app (goodIn_of _ (by decide +kernel)) ggL_law_X2_clear
set_option maxRecDepth 20000 in
theorem ggL_law_X1_placed : GoodIn wsL_law wsX1_placed := goodIn_r _ [295, 16, 296, 297, 298, 2, 299, 18, 567, 568, 569, 570, 571, 572, 573, 574, 575, 576, 577, 578] (by decide +kernel) (by decide +kernel)
set_option maxRecDepth 20000 in
theorem gL_law_X1_placed : GoodIn wsL_law (wsV RL 58 RX1 yX1_placed wsX1_placed) := goodIn_app (goodIn_of _ (by decide +kernel)) ggL_law_X1_placed
set_option maxRecDepth 20000 in
theorem ggL_law_X2_placed : GoodIn wsL_law wsX2_placed := goodIn_r _ [303, 97, 55, 304, 305, 306, 5, 307, 279, 100, 101, 102, 579, 580, 581, 582, 583, 584, 585, 586, 587, 588, 589, 590, 591, 592, 593, 594, 595, 596, 597, 598, 599] (by decide +kernel) (by decide +kernel)
set_option maxRecDepth 20000 in
theorem gL_law_X2_placed : GoodIn wsL_law (wsV RL 61 RX2 yX2_placed wsX2_placed) := goodIn_app (goodIn_of _ (by decide +kernel)) ggL_law_X2_placed
set_option maxRecDepth 20000 in
theorem ggL_law_X1_lines : GoodIn wsL_law wsX1_lines := goodIn_r _ [311, 19, 567, 568, 569, 570, 571, 572, 573, 574, 575, 576, 577, 578] (by decide +kernel) (by decide +kernel)
set_option maxRecDepth 20000 in
theorem gL_law_X1_lines : GoodIn wsL_law (wsV RL 62 RX1 yX1_lines wsX1_lines) := goodIn_app (goodIn_of _ (by decide +kernel)) ggL_law_X1_lines
set_option maxRecDepth 20000 in
theorem ggL_law_X2_lines : GoodIn wsL_law wsX2_lines := goodIn_r _ [315, 97, 168, 150, 56, 100, 101, 5, 102, 579, 580, 581, 582, 583, 584, 585, 586, 587, 588, 589, 590, 591, 592, 593, 594, 595, 596, 597, 598, 599] (by decide +kernel) (by decide +kernel)
set_option maxRecDepth 20000 in
theorem gL_law_X2_lines : GoodIn wsL_law (wsV RL 65 RX2 yX2_lines wsX2_lines) := goodIn_app (goodIn_of _ (by decide +kernel)) ggL_law_X2_lines
set_option maxRecDepth 20000 in
theorem ggL_law_X1_pages : GoodIn wsL_law wsX1_pages := goodIn_r _ [319, 18, 320, 321, 322, 2, 323, 13, 16, 19, 324, 325, 326, 27, 327, 35, 567, 568, 569, 570, 571, 572, 573, 574, 575, 576, 577, 578, 600, 601, 602, 603, 604, 605, 606] (by decide +kernel) (by decide +kernel)
set_option maxRecDepth 20000 in
theorem gL_law_X1_pages : GoodIn wsL_law (wsV RL 66 RX1 yX1_pages wsX1_pages) := goodIn_app (goodIn_of _ (by decide +kernel)) ggL_law_X1_pages
set_option maxRecDepth 20000 in
theorem ggL_law_X2_pages : GoodIn wsL_law wsX2_pages := goodIn_r _ [331, 97, 279, 332, 333, 334, 5, 335, 47, 55, 56, 579, 580, 581, 582, 583, 584, 585, 586, 587, 588, 589, 590, 591, 592, 593, 594, 595, 596, 597, 598, 599] (by decide +kernel) (by decide +kernel)
set_option maxRecDepth 20000 in
theorem gL_law_X2_pages : GoodIn wsL_law (wsV RL 69 RX2 yX2_pages wsX2_pages) := goodIn_app (goodIn_of _ (by decide +kernel)) ggL_law_X2_pages
set_option maxRecDepth 20000 in
theorem ggL_law_X1_page : GoodIn wsL_law wsX1_page := goodIn_r _ [339, 296, 297, 298, 2, 299, 18, 320, 321, 322, 323, 13, 16, 19, 324, 325, 326, 27, 327, 35, 567, 568, 569, 570, 571, 572, 573, 574, 575, 576, 577, 578, 600, 601, 602, 603, 604, 605, 606] (by decide +kernel) (by decide +kernel)
set_option maxRecDepth 20000 in
theorem gL_law_X1_page : GoodIn wsL_law (wsV RL 70 RX1 yX1_page wsX1_page) := goodIn_app (goodIn_of _ (by decide +kernel)) ggL_law_X1_page
set_option maxRecDepth 20000 in
theorem ggL_law_X2_page : GoodIn wsL_law wsX2_page := goodIn_r _ [343, 97, 304, 305, 306, 5, 307, 279, 100, 101, 102, 332, 333, 334, 335, 47, 55, 56, 579, 580, 581, 582, 583, 584, 585, 586, 587, 588, 589, 590, 591, 592, 593, 594, 595, 596, 597, 598, 599] (by decide +kernel) (by decide +kernel)
set_option maxRecDepth 20000 in
theorem gL_law_X2_page : GoodIn wsL_law (wsV RL 74 RX2 yX2_page wsX2_page) := goodIn_app (goodIn_of _ (by decide +kernel)) ggL_law_X2_page
set_option maxRecDepth 20000 in
theorem ggL_law_X1_sheet : GoodIn wsL_law wsX1_sheet := goodIn_r _ [347, 348, 349, 350, 2, 351, 296, 297, 298, 299, 18, 352, 353, 354, 355, 356, 357, 358, 359, 360, 361, 362, 13, 16, 119, 120, 121, 27, 122, 37, 363, 364, 365, 366, 17, 367, 368, 369, 370, 38, 35, 567, 568, 569, 570, 571, 572, 573, 574, 575, 576, 577, 578, 600, 601, 602, 603, 604, 605, 606] (by decide +kernel) (by decide +kernel)
set_option maxRecDepth 20000 in
theorem gL_law_X1_sheet : GoodIn wsL_law (wsV RL 75 RX1 yX1_sheet wsX1_sheet) := goodIn_app (goodIn_of _ (by decide +kernel)) ggL_law_X1_sheet
set_option maxRecDepth 20000 in
theorem ggL_law_X2_sheet : GoodIn wsL_law wsX2_sheet := goodIn_r _ [374, 97, 304, 305, 306, 5, 307, 279, 100, 101, 102, 375, 376, 377, 169, 378, 379, 380, 381, 55, 132, 133, 134, 135, 50, 44, 45, 54, 51, 136, 137, 138, 139, 43, 46, 140, 141, 142, 143, 144, 145, 146, 147, 148, 149, 150, 382, 383, 384, 385, 48, 386, 387, 388, 389, 579, 580, 581, 582, 583, 584, 585, 586, 587, 588, 589, 590, 591, 592, 593, 594, 595, 596, 597, 598, 599] (by decide +kernel) (by decide +kernel)
set_option maxRecDepth 20000 in
theorem gL_law_X2_sheet : GoodIn wsL_law (wsV RL 78 RX2 yX2_sheet wsX2_sheet) := goodIn_app (goodIn_of _ (by decide +kernel)) ggL_law_X2_sheet
set_option maxRecDepth 20000 in
theorem ggL_law_X1_answer : GoodIn wsL_law wsX1_answer := goodIn_r _ [393, 348, 349, 350, 2, 351, 296, 297, 298, 299, 18, 352, 353, 354, 355, 356, 357, 358, 359, 360, 361, 362, 13, 16, 119, 120, 121, 27, 122, 37, 394, 395, 396, 397, 363, 364, 365, 366, 17, 367, 368, 369, 370, 38, 35, 186, 187, 188, 189, 33, 34, 36, 77, 78, 79, 80, 81, 82, 83, 84, 32, 85, 86, 87, 88, 89, 90, 91, 92, 190, 567, 568, 569, 570, 571, 572, 573, 574, 575, 576, 577, 578, 600, 601, 602, 603, 604, 605, 606] (by decide +kernel) (by decide +kernel)
set_option maxRecDepth 20000 in
theorem gL_law_X1_answer : GoodIn wsL_law (wsV RL 79 RX1 yX1_answer wsX1_answer) := goodIn_app (goodIn_of _ (by decide +kernel)) ggL_law_X1_answer
set_option maxRecDepth 20000 in
theorem ggL_law_X2_answer : GoodIn wsL_law wsX2_answer := goodIn_r _ [401, 97, 304, 305, 306, 5, 307, 279, 100, 101, 102, 375, 376, 377, 169, 378, 379, 380, 381, 55, 132, 133, 134, 135, 50, 44, 45, 54, 51, 136, 137, 138, 139, 43, 46, 140, 141, 142, 143, 144, 145, 146, 147, 148, 149, 150, 402, 403, 404, 405, 382, 383, 384, 385, 48, 386, 387, 388, 389, 262, 263, 264, 265, 200, 201, 202, 203, 579, 580, 581, 582, 583, 584, 585, 586, 587, 588, 589, 590, 591, 592, 593, 594, 595, 596, 597, 598, 599] (by decide +kernel) (by decide +kernel)
set_option maxRecDepth 20000 in
theorem gL_law_X2_answer : GoodIn wsL_law (wsV RL 82 RX2 yX2_answer wsX2_answer) := goodIn_app (goodIn_of _ (by decide +kernel)) ggL_law_X2_answer
set_option maxRecDepth 20000 in
theorem ggL_law_X1_code : GoodIn wsL_law wsX1_code := goodIn_r _ [409, 18, 352, 353, 354, 2, 355, 356, 357, 358, 359, 360, 361, 362, 13, 16, 119, 120, 121, 27, 122, 37, 394, 395, 396, 397, 363, 364, 365, 366, 17, 367, 368, 369, 370, 38, 35, 186, 187, 188, 189, 33, 34, 36, 77, 78, 79, 80, 81, 82, 83, 84, 32, 85, 86, 87, 88, 89, 90, 91, 92, 190, 567, 568, 569, 570, 571, 572, 573, 574, 575, 576, 577, 578, 600, 601, 602, 603, 604, 605, 606] (by decide +kernel) (by decide +kernel)
set_option maxRecDepth 20000 in
theorem gL_law_X1_code : GoodIn wsL_law (wsV RL 83 RX1 yX1_code wsX1_code) := goodIn_app (goodIn_of _ (by decide +kernel)) ggL_law_X1_code
set_option maxRecDepth 20000 in
theorem ggL_law_X2_code : GoodIn wsL_law wsX2_code := goodIn_r _ [413, 97, 279, 375, 376, 5, 377, 169, 100, 101, 102, 378, 379, 380, 381, 55, 132, 133, 134, 135, 50, 44, 45, 54, 51, 136, 137, 138, 139, 43, 46, 140, 141, 142, 143, 144, 145, 146, 147, 148, 149, 150, 402, 403, 404, 405, 382, 383, 384, 385, 48, 386, 387, 388, 389, 262, 263, 264, 265, 200, 201, 202, 203, 579, 580, 581, 582, 583, 584, 585, 586, 587, 588, 589, 590, 591, 592, 593, 594, 595, 596, 597, 598, 599] (by decide +kernel) (by decide +kernel)
set_option maxRecDepth 20000 in
theorem gL_law_X2_code : GoodIn wsL_law (wsV RL 86 RX2 yX2_code wsX2_code) := goodIn_app (goodIn_of _ (by decide +kernel)) ggL_law_X2_code
set_option maxRecDepth 20000 in
theorem ggL_law_X1_shared : GoodIn wsL_law wsX1_shared := goodIn_r _ [417, 14, 13, 356, 357, 2, 358, 359, 360, 361, 362, 18, 16, 119, 120, 121, 27, 122, 37, 418, 419, 420, 421, 38, 422, 423, 424, 425, 567, 568, 569, 570, 571, 572, 573, 574, 575, 576, 577, 578, 600, 601, 602, 603, 604, 605, 606] (by decide +kernel) (by decide +kernel)
set_option maxRecDepth 20000 in
theorem gL_law_X1_shared : GoodIn wsL_law (wsV RL 87 RX1 yX1_shared wsX1_shared) := goodIn_app (goodIn_of _ (by decide +kernel)) ggL_law_X1_shared
set_option maxRecDepth 20000 in
theorem ggL_law_X2_shared : GoodIn wsL_law wsX2_shared := goodIn_r _ [429, 97, 279, 55, 375, 376, 5, 377, 169, 100, 101, 102, 378, 379, 380, 381, 132, 133, 134, 135, 50, 44, 45, 54, 51, 136, 137, 138, 139, 43, 46, 140, 141, 142, 143, 144, 145, 146, 147, 148, 149, 150, 382, 383, 384, 385, 48, 386, 387, 388, 389, 579, 580, 581, 582, 583, 584, 585, 586, 587, 588, 589, 590, 591, 592, 593, 594, 595, 596, 597, 598, 599] (by decide +kernel) (by decide +kernel)
set_option maxRecDepth 20000 in
theorem gL_law_X2_shared : GoodIn wsL_law (wsV RL 90 RX2 yX2_shared wsX2_shared) := goodIn_app (goodIn_of _ (by decide +kernel)) ggL_law_X2_shared
set_option maxRecDepth 20000 in
theorem ggL_law_X1_apart : GoodIn wsL_law wsX1_apart := goodIn_r _ [433, 14, 13, 352, 353, 354, 2, 355, 356, 357, 358, 359, 360, 361, 362, 18, 16, 119, 120, 121, 27, 122, 37, 434, 435, 436, 437, 38, 567, 568, 569, 570, 571, 572, 573, 574, 575, 576, 577, 578, 600, 601, 602, 603, 604, 605, 606] (by decide +kernel) (by decide +kernel)
set_option maxRecDepth 20000 in
theorem gL_law_X1_apart : GoodIn wsL_law (wsV RL 91 RX1 yX1_apart wsX1_apart) := goodIn_app (goodIn_of _ (by decide +kernel)) ggL_law_X1_apart
set_option maxRecDepth 20000 in
theorem ggL_law_X2_apart : GoodIn wsL_law wsX2_apart := goodIn_r _ [441, 97, 375, 376, 5, 377, 169, 100, 101, 102, 378, 379, 380, 381, 279, 55, 132, 133, 134, 135, 50, 44, 45, 54, 51, 136, 137, 138, 139, 43, 46, 140, 141, 142, 143, 144, 145, 146, 147, 148, 149, 150, 442, 443, 444, 445, 99, 386, 387, 388, 389, 579, 580, 581, 582, 583, 584, 585, 586, 587, 588, 589, 590, 591, 592, 593, 594, 595, 596, 597, 598, 599] (by decide +kernel) (by decide +kernel)
set_option maxRecDepth 20000 in
theorem gL_law_X2_apart : GoodIn wsL_law (wsV RL 94 RX2 yX2_apart wsX2_apart) := goodIn_app (goodIn_of _ (by decide +kernel)) ggL_law_X2_apart
set_option maxRecDepth 20000 in
theorem ggL_law_X1_seats : GoodIn wsL_law wsX1_seats := goodIn_r _ [449, 20, 21, 23, 567, 568, 569, 570, 571, 572, 573, 574, 575, 576, 577, 578] (by decide +kernel) (by decide +kernel)
set_option maxRecDepth 20000 in
theorem gL_law_X1_seats : GoodIn wsL_law (wsV RL 95 RX1 yX1_seats wsX1_seats) := goodIn_app (goodIn_of _ (by decide +kernel)) ggL_law_X1_seats
set_option maxRecDepth 20000 in
theorem ggL_law_X2_seats : GoodIn wsL_law wsX2_seats := goodIn_r _ [453, 97, 454, 57, 58, 60, 100, 101, 5, 102, 579, 580, 581, 582, 583, 584, 585, 586, 587, 588, 589, 590, 591, 592, 593, 594, 595, 596, 597, 598, 599] (by decide +kernel) (by decide +kernel)
set_option maxRecDepth 20000 in
theorem gL_law_X2_seats : GoodIn wsL_law (wsV RL 98 RX2 yX2_seats wsX2_seats) := goodIn_app (goodIn_of _ (by decide +kernel)) ggL_law_X2_seats
set_option maxRecDepth 20000 in
theorem ggL_law_X1_base : GoodIn wsL_law wsX1_base := goodIn_r _ [458, 22, 567, 568, 569, 570, 571, 572, 573, 574, 575, 576, 577, 578] (by decide +kernel) (by decide +kernel)
set_option maxRecDepth 20000 in
theorem gL_law_X1_base : GoodIn wsL_law (wsV RL 99 RX1 yX1_base wsX1_base) := goodIn_app (goodIn_of _ (by decide +kernel)) ggL_law_X1_base
set_option maxRecDepth 20000 in
theorem ggL_law_X2_base : GoodIn wsL_law wsX2_base := goodIn_r _ [462, 97, 463, 464, 100, 101, 5, 102, 579, 580, 581, 582, 583, 584, 585, 586, 587, 588, 589, 590, 591, 592, 593, 594, 595, 596, 597, 598, 599] (by decide +kernel) (by decide +kernel)
set_option maxRecDepth 20000 in
theorem gL_law_X2_base : GoodIn wsL_law (wsV RL 102 RX2 yX2_base wsX2_base) := goodIn_app (goodIn_of _ (by decide +kernel)) ggL_law_X2_base
set_option maxRecDepth 20000 in
theorem ggL_law_X1_seat : GoodIn wsL_law wsX1_seat := goodIn_r _ [468, 469, 470, 471, 2, 472, 20, 21, 473, 474, 475, 476, 22, 477, 478, 230, 479, 567, 568, 569, 570, 571, 572, 573, 574, 575, 576, 577, 578] (by decide +kernel) (by decide +kernel)
set_option maxRecDepth 20000 in
theorem gL_law_X1_seat : GoodIn wsL_law (wsV RL 103 RX1 yX1_seat wsX1_seat) := goodIn_app (goodIn_of _ (by decide +kernel)) ggL_law_X1_seat
set_option maxRecDepth 20000 in
theorem ggL_law_X2_seat : GoodIn wsL_law wsX2_seat := goodIn_r _ [483, 97, 484, 485, 486, 5, 487, 57, 58, 488, 489, 490, 491, 464, 59, 492, 493, 494, 495, 496, 497, 498, 499, 100, 101, 102, 579, 580, 581, 582, 583, 584, 585, 586, 587, 588, 589, 590, 591, 592, 593, 594, 595, 596, 597, 598, 599] (by decide +kernel) (by decide +kernel)
set_option maxRecDepth 20000 in
theorem gL_law_X2_seat : GoodIn wsL_law (wsV RL 106 RX2 yX2_seat wsX2_seat) := goodIn_app (goodIn_of _ (by decide +kernel)) ggL_law_X2_seat
set_option maxRecDepth 20000 in
theorem ggL_law_X1_unlike : GoodIn wsL_law wsX1_unlike := goodIn_r _ [503, 20, 477, 478, 230, 479, 21, 567, 568, 569, 570, 571, 572, 573, 574, 575, 576, 577, 578] (by decide +kernel) (by decide +kernel)
set_option maxRecDepth 20000 in
theorem gL_law_X1_unlike : GoodIn wsL_law (wsV RL 107 RX1 yX1_unlike wsX1_unlike) := goodIn_app (goodIn_of _ (by decide +kernel)) ggL_law_X1_unlike
set_option maxRecDepth 20000 in
theorem ggL_law_X2_unlike : GoodIn wsL_law wsX2_unlike := goodIn_r _ [507, 97, 59, 492, 493, 494, 5, 495, 57, 58, 496, 497, 498, 499, 100, 101, 102, 579, 580, 581, 582, 583, 584, 585, 586, 587, 588, 589, 590, 591, 592, 593, 594, 595, 596, 597, 598, 599] (by decide +kernel) (by decide +kernel)
set_option maxRecDepth 20000 in
theorem gL_law_X2_unlike : GoodIn wsL_law (wsV RL 110 RX2 yX2_unlike wsX2_unlike) := goodIn_app (goodIn_of _ (by decide +kernel)) ggL_law_X2_unlike
set_option maxRecDepth 20000 in
theorem ggL_law_X1_mark : GoodIn wsL_law wsX1_mark := goodIn_r _ [511, 16, 13, 24, 25, 23, 469, 470, 471, 2, 472, 20, 21, 296, 297, 298, 299, 18, 359, 360, 361, 362, 119, 120, 121, 27, 122, 37, 473, 474, 475, 476, 22, 477, 478, 230, 479, 363, 364, 365, 366, 17, 367, 368, 369, 370, 38, 35, 248, 249, 250, 251, 252, 187, 188, 189, 33, 34, 36, 77, 78, 79, 80, 81, 82, 83, 84, 32, 85, 86, 87, 88, 89, 90, 91, 92, 253, 221, 222, 223, 224, 225, 226, 227, 228, 229, 231, 232, 233, 234, 512, 513, 514, 515, 567, 568, 569, 570, 571, 572, 573, 574, 575, 576, 577, 578, 600, 601, 602, 603, 604, 605, 606] (by decide +kernel) (by decide +kernel)
set_option maxRecDepth 20000 in
theorem gL_law_X1_mark : GoodIn wsL_law (wsV RL 111 RX1 yX1_mark wsX1_mark) := goodIn_app (goodIn_of _ (by decide +kernel)) ggL_law_X1_mark
set_option maxRecDepth 20000 in
theorem ggL_law_X2_mark : GoodIn wsL_law wsX2_mark := goodIn_r _ [519, 97, 55, 520, 521, 60, 484, 485, 486, 5, 487, 57, 58, 304, 305, 306, 307, 279, 100, 101, 102, 378, 379, 380, 381, 132, 133, 134, 135, 50, 44, 45, 54, 51, 136, 137, 138, 139, 43, 46, 140, 141, 142, 143, 144, 145, 146, 147, 148, 149, 150, 488, 489, 490, 491, 464, 59, 492, 493, 494, 495, 496, 497, 498, 499, 382, 383, 384, 385, 48, 386, 387, 388, 389, 258, 259, 260, 261, 262, 263, 264, 265, 200, 201, 202, 203, 240, 241, 242, 243, 579, 580, 581, 582, 583, 584, 585, 586, 587, 588, 589, 590, 591, 592, 593, 594, 595, 596, 597, 598, 599] (by decide +kernel) (by decide +kernel)
set_option maxRecDepth 20000 in
theorem gL_law_X2_mark : GoodIn wsL_law (wsV RL 114 RX2 yX2_mark wsX2_mark) := goodIn_app (goodIn_of _ (by decide +kernel)) ggL_law_X2_mark
set_option maxRecDepth 20000 in
theorem ggL_law_X1_missed : GoodIn wsL_law wsX1_missed := goodIn_r _ [525, 23, 469, 470, 471, 2, 472, 20, 21, 107, 108, 109, 110, 14, 526, 527, 528, 529, 512, 513, 514, 515, 567, 568, 569, 570, 571, 572, 573, 574, 575, 576, 577, 578] (by decide +kernel) (by decide +kernel)
set_option maxRecDepth 20000 in
theorem gL_law_X1_missed : GoodIn wsL_law (wsV RL 115 RX1 yX1_missed wsX1_missed) := goodIn_app (goodIn_of _ (by decide +kernel)) ggL_law_X1_missed
set_option maxRecDepth 20000 in
theorem ggL_law_X2_missed : GoodIn wsL_law wsX2_missed := goodIn_r _ [533, 97, 484, 485, 486, 5, 487, 57, 58, 128, 129, 130, 131, 99, 100, 101, 102, 534, 535, 536, 537, 60, 579, 580, 581, 582, 583, 584, 585, 586, 587, 588, 589, 590, 591, 592, 593, 594, 595, 596, 597, 598, 599] (by decide +kernel) (by decide +kernel)
set_option maxRecDepth 20000 in
theorem gL_law_X2_missed : GoodIn wsL_law (wsV RL 118 RX2 yX2_missed wsX2_missed) := goodIn_app (goodIn_of _ (by decide +kernel)) ggL_law_X2_missed
set_option maxRecDepth 20000 in
theorem ggL_law_X1_review : GoodIn wsL_law wsX1_review := goodIn_r _ [541, 469, 470, 471, 2, 472, 20, 21, 107, 108, 109, 110, 14, 542, 543, 544, 545, 23, 512, 513, 514, 515, 526, 527, 528, 529, 567, 568, 569, 570, 571, 572, 573, 574, 575, 576, 577, 578] (by decide +kernel) (by decide +kernel)
set_option maxRecDepth 20000 in
theorem gL_law_X1_review : GoodIn wsL_law (wsV RL 119 RX1 yX1_review wsX1_review) := goodIn_app (goodIn_of _ (by decide +kernel)) ggL_law_X1_review
set_option maxRecDepth 20000 in
theorem ggL_law_X2_review : GoodIn wsL_law wsX2_review := goodIn_r _ [549, 97, 550, 99, 484, 485, 486, 5, 487, 57, 58, 128, 129, 130, 131, 100, 101, 102, 534, 535, 536, 537, 60, 579, 580, 581, 582, 583, 584, 585, 586, 587, 588, 589, 590, 591, 592, 593, 594, 595, 596, 597, 598, 599] (by decide +kernel) (by decide +kernel)
set_option maxRecDepth 20000 in
theorem gL_law_X2_review : GoodIn wsL_law (wsV RL 122 RX2 yX2_review wsX2_review) := goodIn_app (goodIn_of _ (by decide +kernel)) ggL_law_X2_review
set_option maxRecDepth 20000 in
theorem ggL_law_X1_all : GoodIn wsL_law wsX1_all := goodIn_r _ [554, 23, 107, 108, 109, 2, 110, 14, 567, 568, 569, 570, 571, 572, 573, 574, 575, 576, 577, 578] (by decide +kernel) (by decide +kernel)
set_option maxRecDepth 20000 in
theorem gL_law_X1_all : GoodIn wsL_law (wsV RL 123 RX1 yX1_all wsX1_all) := goodIn_app (goodIn_of _ (by decide +kernel)) ggL_law_X1_all
set_option maxRecDepth 20000 in
theorem ggL_law_X2_all : GoodIn wsL_law wsX2_all := goodIn_r _ [558, 97, 60, 128, 129, 130, 5, 131, 99, 100, 101, 102, 579, 580, 581, 582, 583, 584, 585, 586, 587, 588, 589, 590, 591, 592, 593, 594, 595, 596, 597, 598, 599] (by decide +kernel) (by decide +kernel)
set_option maxRecDepth 20000 in
theorem gL_law_X2_all : GoodIn wsL_law (wsV RL 126 RX2 yX2_all wsX2_all) := goodIn_app (goodIn_of _ (by decide +kernel)) ggL_law_X2_all
set_option maxRecDepth 20000 in
theorem ggL_law_X1_total : GoodIn wsL_law wsX1_total := goodIn_r _ [562, 14, 18, 20, 21, 24, 25, 567, 568, 569, 570, 571, 572, 573, 574, 575, 576, 577, 578] (by decide +kernel) (by decide +kernel)
set_option maxRecDepth 20000 in
theorem gL_law_X1_total : GoodIn wsL_law (wsV RL 127 RX1 yX1_total wsX1_total) := goodIn_app (goodIn_of _ (by decide +kernel)) ggL_law_X1_total
set_option maxRecDepth 20000 in
theorem ggL_law_X2_total : GoodIn wsL_law wsX2_total := goodIn_r _ [566, 97, 99, 279, 57, 58, 520, 521, 579, 580, 581, 582, 583, 584, 585, 586, 587, 588, 589, 590, 591, 592, 593, 594, 595, 596, 597, 598, 599] (by decide +kernel) (by decide +kernel)
set_option maxRecDepth 20000 in
theorem gL_law_X2_total : GoodIn wsL_law (wsV RL 130 RX2 yX2_total wsX2_total) := goodIn_app (goodIn_of _ (by decide +kernel)) ggL_law_X2_total
