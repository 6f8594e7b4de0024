theorem dX0_init_0 : decode cX0_init 0 = .ok (.aload_n 0, 1) := by decide +kernel
theorem dX0_init_1 : decode cX0_init 1 = .ok (.invokespecial 5, 3) := by decide +kernel
theorem dX0_init_4 : decode cX0_init 4 = .ok (.aload_n 0, 1) := by decide +kernel
theorem dX0_init_5 : decode cX0_init 5 = .ok (.iconst 1, 1) := by decide +kernel
theorem dX0_init_6 : decode cX0_init 6 = .ok (.putfield 11, 3) := by decide +kernel
theorem dX0_init_9 : decode cX0_init 9 = .ok (.aload_n 0, 1) := by decide +kernel
theorem dX0_init_10 : decode cX0_init 10 = .ok (.ldc 15, 2) := by decide +kernel
theorem dX0_init_12 : decode cX0_init 12 = .ok (.putfield 16, 3) := by decide +kernel
theorem dX0_init_15 : decode cX0_init 15 = .ok (.aload_n 0, 1) := by decide +kernel
theorem dX0_init_16 : decode cX0_init 16 = .ok (.ldc 15, 2) := by decide +kernel
theorem dX0_init_18 : decode cX0_init 18 = .ok (.putfield 19, 3) := by decide +kernel
theorem dX0_init_21 : decode cX0_init 21 = .ok (.return_, 1) := by decide +kernel
set_option maxRecDepth 20000 in
theorem ggX0_two_X0_isValue : GoodIn wsX0_two wsX0_isValue := goodIn_r _ [4, 5, 6, 3, 7, 8, 9] (by decide +kernel) (by decide +kernel)
set_option maxRecDepth 20000 in
theorem gX0_two_X0_isValue : GoodIn wsX0_two (va_wsS RX0 22 yX0_isValue wsX0_isValue) := goodIn_app (goodIn_of _ (by decide +kernel)) ggX0_two_X0_isValue
set_option maxRecDepth 20000 in
theorem ggX0_two_X0_isForWholesAlone : GoodIn wsX0_two wsX0_isForWholesAlone := goodIn_r _ [12] (by decide +kernel) (by decide +kernel)
set_option maxRecDepth 20000 in
theorem gX0_two_X0_isForWholesAlone : GoodIn wsX0_two (va_wsS RX0 26 yX0_isForWholesAlone wsX0_isForWholesAlone) := goodIn_app (goodIn_of _ (by decide +kernel)) ggX0_two_X0_isForWholesAlone
set_option maxRecDepth 20000 in
theorem ggX0_two_X0_ofWholes : GoodIn wsX0_two wsX0_ofWholes := goodIn_r _ [16, 17, 18, 19, 3, 20, 21, 22, 5, 6, 7, 8, 9, 23, 24, 25, 75, 76, 77, 78, 79, 80, 81, 82, 83, 84] (by decide +kernel) (by decide +kernel)
set_option maxRecDepth 20000 in
theorem gX0_two_X0_ofWholes : GoodIn wsX0_two (wsV RX0 30 RX0 yX0_ofWholes wsX0_ofWholes) := goodIn_app (goodIn_of _ (by decide +kernel)) ggX0_two_X0_ofWholes
set_option maxRecDepth 20000 in
theorem ggX0_two_X0_units : GoodIn wsX0_two wsX0_units := goodIn_r _ [28, 29] (by decide +kernel) (by decide +kernel)
set_option maxRecDepth 20000 in
theorem gX0_two_X0_units : GoodIn wsX0_two (va_wsS RX0 34 yX0_units wsX0_units) := goodIn_app (goodIn_of _ (by decide +kernel)) ggX0_two_X0_units
set_option maxRecDepth 20000 in
theorem ggX0_two_X0_isReal : GoodIn wsX0_two wsX0_isReal := goodIn_r _ [7, 8, 9] (by decide +kernel) (by decide +kernel)
set_option maxRecDepth 20000 in
theorem gX0_two_X0_isReal : GoodIn wsX0_two (va_wsS RX0 38 yX0_isReal wsX0_isReal) := goodIn_app (goodIn_of _ (by decide +kernel)) ggX0_two_X0_isReal
set_option maxRecDepth 20000 in
theorem ggX0_two_X0_ofReals : GoodIn wsX0_two wsX0_ofReals := goodIn_r _ [33, 17, 18, 19, 3, 20, 21, 22, 5, 6, 7, 8, 9, 34, 35, 36, 37, 38, 39, 40, 41, 42, 43, 44, 45, 46, 47, 48, 49, 50, 51, 52, 53, 54, 55, 56, 57, 58, 59, 60, 61, 62, 63, 64, 65, 66, 67, 68, 69, 70, 71, 72, 73, 29, 74, 75, 76, 77, 78, 79, 80, 81, 82, 83, 84] (by decide +kernel) (by decide +kernel)
set_option maxRecDepth 20000 in
theorem gX0_two_X0_ofReals : GoodIn wsX0_two (wsV RX0 42 RX0 yX0_ofReals wsX0_ofReals) := goodIn_app (goodIn_of _ (by decide +kernel)) ggX0_two_X0_ofReals
theorem dX0_two_0 : decode cX0_two 0 = .ok (.iload_n 1, 1) := by decide +kernel
theorem dX0_two_1 : decode cX0_two 1 = .ok (.ifCond .lt 27, 3) := by decide +kernel
theorem dX0_two_4 : decode cX0_two 4 = .ok (.iload_n 1, 1) := by decide +kernel
theorem dX0_two_5 : decode cX0_two 5 = .ok (.bipush 10, 2) := by decide +kernel
theorem dX0_two_7 : decode cX0_two 7 = .ok (.if_icmp .gt 21, 3) := by decide +kernel
theorem dX0_two_10 : decode cX0_two 10 = .ok (.iload_n 2, 1) := by decide +kernel
theorem dX0_two_11 : decode cX0_two 11 = .ok (.iload_n 3, 1) := by decide +kernel
theorem dX0_two_12 : decode cX0_two 12 = .ok (.invokestatic 22, 3) := by decide +kernel
theorem dX0_two_15 : decode cX0_two 15 = .ok (.ifCond .eq 13, 3) := by decide +kernel
theorem dX0_two_18 : decode cX0_two 18 = .ok (.iload 4, 2) := by decide +kernel
theorem dX0_two_20 : decode cX0_two 20 = .ok (.iload 5, 2) := by decide +kernel
theorem dX0_two_22 : decode cX0_two 22 = .ok (.invokestatic 22, 3) := by decide +kernel
theorem dX0_two_25 : decode cX0_two 25 = .ok (.ifCond .ne 5, 3) := by decide +kernel
theorem dX0_two_28 : decode cX0_two 28 = .ok (.iconst (-1), 1) := by decide +kernel
theorem dX0_two_29 : decode cX0_two 29 = .ok (.ireturn, 1) := by decide +kernel
theorem dX0_two_30 : decode cX0_two 30 = .ok (.iload_n 2, 1) := by decide +kernel
theorem dX0_two_31 : decode cX0_two 31 = .ok (.iconst 1, 1) := by decide +kernel
theorem dX0_two_32 : decode cX0_two 32 = .ok (.if_icmp .ne 13, 3) := by decide +kernel
theorem dX0_two_35 : decode cX0_two 35 = .ok (.iload 4, 2) := by decide +kernel
theorem dX0_two_37 : decode cX0_two 37 = .ok (.iconst 1, 1) := by decide +kernel
theorem dX0_two_38 : decode cX0_two 38 = .ok (.if_icmp .ne 7, 3) := by decide +kernel
theorem dX0_two_41 : decode cX0_two 41 = .ok (.iconst 1, 1) := by decide +kernel
theorem dX0_two_42 : decode cX0_two 42 = .ok (.goto 4, 3) := by decide +kernel
theorem dX0_two_45 : decode cX0_two 45 = .ok (.iconst 0, 1) := by decide +kernel
theorem dX0_two_46 : decode cX0_two 46 = .ok (.istore 6, 2) := by decide +kernel
theorem dX0_two_48 : decode cX0_two 48 = .ok (.iload 6, 2) := by decide +kernel
theorem dX0_two_50 : decode cX0_two 50 = .ok (.ifCond .ne 13, 3) := by decide +kernel
theorem dX0_two_53 : decode cX0_two 53 = .ok (.iload_n 1, 1) := by decide +kernel
theorem dX0_two_54 : decode cX0_two 54 = .ok (.invokestatic 26, 3) := by decide +kernel
theorem dX0_two_57 : decode cX0_two 57 = .ok (.ifCond .eq 6, 3) := by decide +kernel
theorem dX0_two_60 : decode cX0_two 60 = .ok (.bipush (-4), 2) := by decide +kernel
theorem dX0_two_62 : decode cX0_two 62 = .ok (.ireturn, 1) := by decide +kernel
theorem dX0_two_63 : decode cX0_two 63 = .ok (.iload 6, 2) := by decide +kernel
theorem dX0_two_65 : decode cX0_two 65 = .ok (.ifCond .eq 23, 3) := by decide +kernel
theorem dX0_two_68 : decode cX0_two 68 = .ok (.iload_n 1, 1) := by decide +kernel
theorem dX0_two_69 : decode cX0_two 69 = .ok (.iconst 3, 1) := by decide +kernel
theorem dX0_two_70 : decode cX0_two 70 = .ok (.if_icmp .eq 18, 3) := by decide +kernel
theorem dX0_two_73 : decode cX0_two 73 = .ok (.iload_n 1, 1) := by decide +kernel
theorem dX0_two_74 : decode cX0_two 74 = .ok (.bipush 6, 2) := by decide +kernel
theorem dX0_two_76 : decode cX0_two 76 = .ok (.if_icmp .eq 12, 3) := by decide +kernel
theorem dX0_two_79 : decode cX0_two 79 = .ok (.aload_n 0, 1) := by decide +kernel
theorem dX0_two_80 : decode cX0_two 80 = .ok (.iload_n 1, 1) := by decide +kernel
theorem dX0_two_81 : decode cX0_two 81 = .ok (.iload_n 3, 1) := by decide +kernel
theorem dX0_two_82 : decode cX0_two 82 = .ok (.iload 5, 2) := by decide +kernel
theorem dX0_two_84 : decode cX0_two 84 = .ok (.invokevirtual 30, 3) := by decide +kernel
theorem dX0_two_87 : decode cX0_two 87 = .ok (.ireturn, 1) := by decide +kernel
theorem dX0_two_88 : decode cX0_two 88 = .ok (.iload_n 2, 1) := by decide +kernel
theorem dX0_two_89 : decode cX0_two 89 = .ok (.iload_n 3, 1) := by decide +kernel
theorem dX0_two_90 : decode cX0_two 90 = .ok (.invokestatic 34, 3) := by decide +kernel
theorem dX0_two_93 : decode cX0_two 93 = .ok (.lstore 7, 2) := by decide +kernel
theorem dX0_two_95 : decode cX0_two 95 = .ok (.iload 4, 2) := by decide +kernel
theorem dX0_two_97 : decode cX0_two 97 = .ok (.iload 5, 2) := by decide +kernel
theorem dX0_two_99 : decode cX0_two 99 = .ok (.invokestatic 34, 3) := by decide +kernel
theorem dX0_two_102 : decode cX0_two 102 = .ok (.lstore 9, 2) := by decide +kernel
theorem dX0_two_104 : decode cX0_two 104 = .ok (.lload 7, 2) := by decide +kernel
theorem dX0_two_106 : decode cX0_two 106 = .ok (.invokestatic 38, 3) := by decide +kernel
theorem dX0_two_109 : decode cX0_two 109 = .ok (.ifCond .eq 11, 3) := by decide +kernel
theorem dX0_two_112 : decode cX0_two 112 = .ok (.lload 9, 2) := by decide +kernel
theorem dX0_two_114 : decode cX0_two 114 = .ok (.invokestatic 38, 3) := by decide +kernel
theorem dX0_two_117 : decode cX0_two 117 = .ok (.ifCond .ne 6, 3) := by decide +kernel
theorem dX0_two_120 : decode cX0_two 120 = .ok (.bipush (-2), 2) := by decide +kernel
theorem dX0_two_122 : decode cX0_two 122 = .ok (.ireturn, 1) := by decide +kernel
theorem dX0_two_123 : decode cX0_two 123 = .ok (.aload_n 0, 1) := by decide +kernel
theorem dX0_two_124 : decode cX0_two 124 = .ok (.iload_n 1, 1) := by decide +kernel
theorem dX0_two_125 : decode cX0_two 125 = .ok (.lload 7, 2) := by decide +kernel
theorem dX0_two_127 : decode cX0_two 127 = .ok (.lload 9, 2) := by decide +kernel
theorem dX0_two_129 : decode cX0_two 129 = .ok (.invokevirtual 42, 3) := by decide +kernel
theorem dX0_two_132 : decode cX0_two 132 = .ok (.ireturn, 1) := by decide +kernel
set_option maxRecDepth 20000 in
theorem ggX0_one_X0_isValue : GoodIn wsX0_one wsX0_isValue := goodIn_r _ [4, 5, 6, 3, 7, 8, 9] (by decide +kernel) (by decide +kernel)
set_option maxRecDepth 20000 in
theorem gX0_one_X0_isValue : GoodIn wsX0_one (va_wsS RX0 22 yX0_isValue wsX0_isValue) := goodIn_app (goodIn_of _ (by decide +kernel)) ggX0_one_X0_isValue
set_option maxRecDepth 20000 in
theorem ggX0_one_X0_keep : GoodIn wsX0_one wsX0_keep := goodIn_r _ [13, 14, 15, 5, 6, 3, 7, 8, 9, 67, 68, 69, 70, 71, 72, 73, 74, 75, 76] (by decide +kernel) (by decide +kernel)
set_option maxRecDepth 20000 in
theorem gX0_one_X0_keep : GoodIn wsX0_one (wsV RX0 46 RX0 yX0_keep wsX0_keep) := goodIn_app (goodIn_of _ (by decide +kernel)) ggX0_one_X0_keep
set_option maxRecDepth 20000 in
theorem ggX0_one_X0_isAsAReal : GoodIn wsX0_one wsX0_isAsAReal := goodIn_r _ [18] (by decide +kernel) (by decide +kernel)
set_option maxRecDepth 20000 in
theorem gX0_one_X0_isAsAReal : GoodIn wsX0_one (va_wsS RX0 50 yX0_isAsAReal wsX0_isAsAReal) := goodIn_app (goodIn_of _ (by decide +kernel)) ggX0_one_X0_isAsAReal
set_option maxRecDepth 20000 in
theorem ggX0_one_X0_ofOne : GoodIn wsX0_one wsX0_ofOne := goodIn_r _ [22, 23, 24, 25, 26, 27, 10, 11, 12, 3, 13, 14, 15, 5, 6, 7, 8, 9, 28, 29, 30, 31, 32, 33, 34, 35, 36, 67, 68, 69, 70, 71, 72, 73, 74, 75, 76] (by decide +kernel) (by decide +kernel)
set_option maxRecDepth 20000 in
theorem gX0_one_X0_ofOne : GoodIn wsX0_one (wsV RX0 53 RX0 yX0_ofOne wsX0_ofOne) := goodIn_app (goodIn_of _ (by decide +kernel)) ggX0_one_X0_ofOne
set_option maxRecDepth 20000 in
theorem ggX0_one_X0_units : GoodIn wsX0_one wsX0_units := goodIn_r _ [39, 33] (by decide +kernel) (by decide +kernel)
set_option maxRecDepth 20000 in
theorem gX0_one_X0_units : GoodIn wsX0_one (va_wsS RX0 34 yX0_units wsX0_units) := goodIn_app (goodIn_of _ (by decide +kernel)) ggX0_one_X0_units
set_option maxRecDepth 20000 in
theorem ggX0_one_X0_isReal : GoodIn wsX0_one wsX0_isReal := goodIn_r _ [7, 8, 9] (by decide +kernel) (by decide +kernel)
set_option maxRecDepth 20000 in
theorem gX0_one_X0_isReal : GoodIn wsX0_one (va_wsS RX0 38 yX0_isReal wsX0_isReal) := goodIn_app (goodIn_of _ (by decide +kernel)) ggX0_one_X0_isReal
set_option maxRecDepth 20000 in
theorem ggX0_one_X0_ofReal : GoodIn wsX0_one wsX0_ofReal := goodIn_r _ [43, 44, 45, 46, 3, 47, 33, 10, 11, 12, 13, 14, 15, 5, 6, 7, 8, 9, 48, 49, 50, 51, 52, 53, 54, 25, 55, 56, 57, 58, 59, 60, 61, 62, 63, 64, 65, 66, 32, 67, 68, 69, 70, 71, 72, 73, 74, 75, 76] (by decide +kernel) (by decide +kernel)
set_option maxRecDepth 20000 in
theorem gX0_one_X0_ofReal : GoodIn wsX0_one (wsV RX0 56 RX0 yX0_ofReal wsX0_ofReal) := goodIn_app (goodIn_of _ (by decide +kernel)) ggX0_one_X0_ofReal
theorem dX0_one_0 : decode cX0_one 0 = .ok (.iload_n 1, 1) := by decide +kernel
theorem dX0_one_1 : decode cX0_one 1 = .ok (.ifCond .lt 17, 3) := by decide +kernel
theorem dX0_one_4 : decode cX0_one 4 = .ok (.iload_n 1, 1) := by decide +kernel
theorem dX0_one_5 : decode cX0_one 5 = .ok (.bipush 11, 2) := by decide +kernel
theorem dX0_one_7 : decode cX0_one 7 = .ok (.if_icmp .gt 11, 3) := by decide +kernel
theorem dX0_one_10 : decode cX0_one 10 = .ok (.iload_n 2, 1) := by decide +kernel
theorem dX0_one_11 : decode cX0_one 11 = .ok (.iload_n 3, 1) := by decide +kernel
theorem dX0_one_12 : decode cX0_one 12 = .ok (.invokestatic 22, 3) := by decide +kernel
theorem dX0_one_15 : decode cX0_one 15 = .ok (.ifCond .ne 5, 3) := by decide +kernel
theorem dX0_one_18 : decode cX0_one 18 = .ok (.iconst (-1), 1) := by decide +kernel
theorem dX0_one_19 : decode cX0_one 19 = .ok (.ireturn, 1) := by decide +kernel
theorem dX0_one_20 : decode cX0_one 20 = .ok (.iload_n 1, 1) := by decide +kernel
theorem dX0_one_21 : decode cX0_one 21 = .ok (.bipush 11, 2) := by decide +kernel
theorem dX0_one_23 : decode cX0_one 23 = .ok (.if_icmp .ne 23, 3) := by decide +kernel
theorem dX0_one_26 : decode cX0_one 26 = .ok (.iload_n 2, 1) := by decide +kernel
theorem dX0_one_27 : decode cX0_one 27 = .ok (.iconst 1, 1) := by decide +kernel
theorem dX0_one_28 : decode cX0_one 28 = .ok (.if_icmp .ne 15, 3) := by decide +kernel
theorem dX0_one_31 : decode cX0_one 31 = .ok (.aload_n 0, 1) := by decide +kernel
theorem dX0_one_32 : decode cX0_one 32 = .ok (.iconst 1, 1) := by decide +kernel
theorem dX0_one_33 : decode cX0_one 33 = .ok (.iload_n 3, 1) := by decide +kernel
theorem dX0_one_34 : decode cX0_one 34 = .ok (.iconst (-1), 1) := by decide +kernel
theorem dX0_one_35 : decode cX0_one 35 = .ok (.ixor, 1) := by decide +kernel
theorem dX0_one_36 : decode cX0_one 36 = .ok (.i2l, 1) := by decide +kernel
theorem dX0_one_37 : decode cX0_one 37 = .ok (.invokevirtual 46, 3) := by decide +kernel
theorem dX0_one_40 : decode cX0_one 40 = .ok (.goto 5, 3) := by decide +kernel
theorem dX0_one_43 : decode cX0_one 43 = .ok (.bipush (-4), 2) := by decide +kernel
theorem dX0_one_45 : decode cX0_one 45 = .ok (.ireturn, 1) := by decide +kernel
theorem dX0_one_46 : decode cX0_one 46 = .ok (.iload_n 1, 1) := by decide +kernel
theorem dX0_one_47 : decode cX0_one 47 = .ok (.invokestatic 50, 3) := by decide +kernel
theorem dX0_one_50 : decode cX0_one 50 = .ok (.ifCond .ne 11, 3) := by decide +kernel
theorem dX0_one_53 : decode cX0_one 53 = .ok (.aload_n 0, 1) := by decide +kernel
theorem dX0_one_54 : decode cX0_one 54 = .ok (.iload_n 1, 1) := by decide +kernel
theorem dX0_one_55 : decode cX0_one 55 = .ok (.iload_n 2, 1) := by decide +kernel
theorem dX0_one_56 : decode cX0_one 56 = .ok (.iload_n 3, 1) := by decide +kernel
theorem dX0_one_57 : decode cX0_one 57 = .ok (.invokevirtual 53, 3) := by decide +kernel
theorem dX0_one_60 : decode cX0_one 60 = .ok (.ireturn, 1) := by decide +kernel
theorem dX0_one_61 : decode cX0_one 61 = .ok (.iload_n 2, 1) := by decide +kernel
theorem dX0_one_62 : decode cX0_one 62 = .ok (.iload_n 3, 1) := by decide +kernel
theorem dX0_one_63 : decode cX0_one 63 = .ok (.invokestatic 34, 3) := by decide +kernel
theorem dX0_one_66 : decode cX0_one 66 = .ok (.lstore 4, 2) := by decide +kernel
theorem dX0_one_68 : decode cX0_one 68 = .ok (.lload 4, 2) := by decide +kernel
theorem dX0_one_70 : decode cX0_one 70 = .ok (.invokestatic 38, 3) := by decide +kernel
theorem dX0_one_73 : decode cX0_one 73 = .ok (.ifCond .eq 13, 3) := by decide +kernel
theorem dX0_one_76 : decode cX0_one 76 = .ok (.aload_n 0, 1) := by decide +kernel
theorem dX0_one_77 : decode cX0_one 77 = .ok (.iload_n 1, 1) := by decide +kernel
theorem dX0_one_78 : decode cX0_one 78 = .ok (.lload 4, 2) := by decide +kernel
theorem dX0_one_80 : decode cX0_one 80 = .ok (.invokevirtual 56, 3) := by decide +kernel
theorem dX0_one_83 : decode cX0_one 83 = .ok (.goto 5, 3) := by decide +kernel
theorem dX0_one_86 : decode cX0_one 86 = .ok (.bipush (-2), 2) := by decide +kernel
theorem dX0_one_88 : decode cX0_one 88 = .ok (.ireturn, 1) := by decide +kernel
theorem dX0_kind_0 : decode cX0_kind 0 = .ok (.aload_n 0, 1) := by decide +kernel
theorem dX0_kind_1 : decode cX0_kind 1 = .ok (.getfield 11, 3) := by decide +kernel
theorem dX0_kind_4 : decode cX0_kind 4 = .ok (.ireturn, 1) := by decide +kernel
theorem dX0_number_0 : decode cX0_number 0 = .ok (.aload_n 0, 1) := by decide +kernel
theorem dX0_number_1 : decode cX0_number 1 = .ok (.getfield 59, 3) := by decide +kernel
theorem dX0_number_4 : decode cX0_number 4 = .ok (.ireturn, 1) := by decide +kernel
set_option maxRecDepth 20000 in
theorem ggX0_compare_X0_isValue : GoodIn wsX0_compare wsX0_isValue := goodIn_r _ [4, 5, 6, 3, 7, 8, 9] (by decide +kernel) (by decide +kernel)
set_option maxRecDepth 20000 in
theorem gX0_compare_X0_isValue : GoodIn wsX0_compare (va_wsS RX0 22 yX0_isValue wsX0_isValue) := goodIn_app (goodIn_of _ (by decide +kernel)) ggX0_compare_X0_isValue
set_option maxRecDepth 20000 in
theorem ggX0_compare_X0_units : GoodIn wsX0_compare wsX0_units := goodIn_r _ [12, 13] (by decide +kernel) (by decide +kernel)
set_option maxRecDepth 20000 in
theorem gX0_compare_X0_units : GoodIn wsX0_compare (va_wsS RX0 34 yX0_units wsX0_units) := goodIn_app (goodIn_of _ (by decide +kernel)) ggX0_compare_X0_units
theorem dX0_compare_0 : decode cX0_compare 0 = .ok (.iload_n 1, 1) := by decide +kernel
theorem dX0_compare_1 : decode cX0_compare 1 = .ok (.iload_n 2, 1) := by decide +kernel
theorem dX0_compare_2 : decode cX0_compare 2 = .ok (.invokestatic 22, 3) := by decide +kernel
theorem dX0_compare_5 : decode cX0_compare 5 = .ok (.ifCond .eq 12, 3) := by decide +kernel
theorem dX0_compare_8 : decode cX0_compare 8 = .ok (.iload_n 3, 1) := by decide +kernel
theorem dX0_compare_9 : decode cX0_compare 9 = .ok (.iload 4, 2) := by decide +kernel
theorem dX0_compare_11 : decode cX0_compare 11 = .ok (.invokestatic 22, 3) := by decide +kernel
theorem dX0_compare_14 : decode cX0_compare 14 = .ok (.ifCond .ne 5, 3) := by decide +kernel
theorem dX0_compare_17 : decode cX0_compare 17 = .ok (.iconst (-1), 1) := by decide +kernel
theorem dX0_compare_18 : decode cX0_compare 18 = .ok (.ireturn, 1) := by decide +kernel
theorem dX0_compare_19 : decode cX0_compare 19 = .ok (.iload_n 1, 1) := by decide +kernel
theorem dX0_compare_20 : decode cX0_compare 20 = .ok (.iload_n 2, 1) := by decide +kernel
theorem dX0_compare_21 : decode cX0_compare 21 = .ok (.invokestatic 34, 3) := by decide +kernel
theorem dX0_compare_24 : decode cX0_compare 24 = .ok (.lstore 5, 2) := by decide +kernel
theorem dX0_compare_26 : decode cX0_compare 26 = .ok (.iload_n 3, 1) := by decide +kernel
theorem dX0_compare_27 : decode cX0_compare 27 = .ok (.iload 4, 2) := by decide +kernel
theorem dX0_compare_29 : decode cX0_compare 29 = .ok (.invokestatic 34, 3) := by decide +kernel
theorem dX0_compare_32 : decode cX0_compare 32 = .ok (.lstore 7, 2) := by decide +kernel
theorem dX0_compare_34 : decode cX0_compare 34 = .ok (.lload 5, 2) := by decide +kernel
theorem dX0_compare_36 : decode cX0_compare 36 = .ok (.lload 7, 2) := by decide +kernel
theorem dX0_compare_38 : decode cX0_compare 38 = .ok (.lcmp, 1) := by decide +kernel
theorem dX0_compare_39 : decode cX0_compare 39 = .ok (.ifCond .ne 5, 3) := by decide +kernel
theorem dX0_compare_42 : decode cX0_compare 42 = .ok (.iconst 1, 1) := by decide +kernel
theorem dX0_compare_43 : decode cX0_compare 43 = .ok (.ireturn, 1) := by decide +kernel
theorem dX0_compare_44 : decode cX0_compare 44 = .ok (.lload 5, 2) := by decide +kernel
theorem dX0_compare_46 : decode cX0_compare 46 = .ok (.lload 7, 2) := by decide +kernel
theorem dX0_compare_48 : decode cX0_compare 48 = .ok (.lcmp, 1) := by decide +kernel
theorem dX0_compare_49 : decode cX0_compare 49 = .ok (.ifCond .ge 7, 3) := by decide +kernel
theorem dX0_compare_52 : decode cX0_compare 52 = .ok (.iconst 0, 1) := by decide +kernel
theorem dX0_compare_53 : decode cX0_compare 53 = .ok (.goto 4, 3) := by decide +kernel
theorem dX0_compare_56 : decode cX0_compare 56 = .ok (.iconst 2, 1) := by decide +kernel
theorem dX0_compare_57 : decode cX0_compare 57 = .ok (.ireturn, 1) := by decide +kernel
set_option maxRecDepth 20000 in
theorem ggX0_matrix_X0_keepMatrix : GoodIn wsX0_matrix wsX0_keepMatrix := goodIn_r _ [5, 6, 7, 8, 9, 10, 11, 12, 13, 4, 14, 15, 16, 17, 18, 19, 20, 21, 22, 23, 24, 25, 26, 27, 28, 29] (by decide +kernel) (by decide +kernel)
set_option maxRecDepth 20000 in
theorem gX0_matrix_X0_keepMatrix : GoodIn wsX0_matrix (wsV RX0 62 RX0 yX0_keepMatrix wsX0_keepMatrix) := goodIn_app (goodIn_of _ (by decide +kernel)) ggX0_matrix_X0_keepMatrix
theorem dX0_matrix_0 : decode cX0_matrix 0 = .ok (.aload_n 0, 1) := by decide +kernel
theorem dX0_matrix_1 : decode cX0_matrix 1 = .ok (.iload_n 1, 1) := by decide +kernel
theorem dX0_matrix_2 : decode cX0_matrix 2 = .ok (.i2l, 1) := by decide +kernel
theorem dX0_matrix_3 : decode cX0_matrix 3 = .ok (.iload_n 2, 1) := by decide +kernel
theorem dX0_matrix_4 : decode cX0_matrix 4 = .ok (.i2l, 1) := by decide +kernel
theorem dX0_matrix_5 : decode cX0_matrix 5 = .ok (.iload_n 3, 1) := by decide +kernel
theorem dX0_matrix_6 : decode cX0_matrix 6 = .ok (.i2l, 1) := by decide +kernel
theorem dX0_matrix_7 : decode cX0_matrix 7 = .ok (.iload 4, 2) := by decide +kernel
theorem dX0_matrix_9 : decode cX0_matrix 9 = .ok (.i2l, 1) := by decide +kernel
theorem dX0_matrix_10 : decode cX0_matrix 10 = .ok (.iload 5, 2) := by decide +kernel
theorem dX0_matrix_12 : decode cX0_matrix 12 = .ok (.i2l, 1) := by decide +kernel
theorem dX0_matrix_13 : decode cX0_matrix 13 = .ok (.iload 6, 2) := by decide +kernel
theorem dX0_matrix_15 : decode cX0_matrix 15 = .ok (.i2l, 1) := by decide +kernel
theorem dX0_matrix_16 : decode cX0_matrix 16 = .ok (.invokevirtual 62, 3) := by decide +kernel
theorem dX0_matrix_19 : decode cX0_matrix 19 = .ok (.ireturn, 1) := by decide +kernel
theorem dX0_entry_0 : decode cX0_entry 0 = .ok (.iload_n 1, 1) := by decide +kernel
theorem dX0_entry_1 : decode cX0_entry 1 = .ok (.tableswitch 69 0 5 #[39, 44, 49, 54, 59, 64], 39) := by decide +kernel
theorem dX0_entry_40 : decode cX0_entry 40 = .ok (.aload_n 0, 1) := by decide +kernel
theorem dX0_entry_41 : decode cX0_entry 41 = .ok (.getfield 16, 3) := by decide +kernel
theorem dX0_entry_44 : decode cX0_entry 44 = .ok (.ireturn, 1) := by decide +kernel
theorem dX0_entry_45 : decode cX0_entry 45 = .ok (.aload_n 0, 1) := by decide +kernel
theorem dX0_entry_46 : decode cX0_entry 46 = .ok (.getfield 66, 3) := by decide +kernel
theorem dX0_entry_49 : decode cX0_entry 49 = .ok (.ireturn, 1) := by decide +kernel
theorem dX0_entry_50 : decode cX0_entry 50 = .ok (.aload_n 0, 1) := by decide +kernel
theorem dX0_entry_51 : decode cX0_entry 51 = .ok (.getfield 69, 3) := by decide +kernel
theorem dX0_entry_54 : decode cX0_entry 54 = .ok (.ireturn, 1) := by decide +kernel
theorem dX0_entry_55 : decode cX0_entry 55 = .ok (.aload_n 0, 1) := by decide +kernel
theorem dX0_entry_56 : decode cX0_entry 56 = .ok (.getfield 19, 3) := by decide +kernel
theorem dX0_entry_59 : decode cX0_entry 59 = .ok (.ireturn, 1) := by decide +kernel
theorem dX0_entry_60 : decode cX0_entry 60 = .ok (.aload_n 0, 1) := by decide +kernel
theorem dX0_entry_61 : decode cX0_entry 61 = .ok (.getfield 72, 3) := by decide +kernel
theorem dX0_entry_64 : decode cX0_entry 64 = .ok (.ireturn, 1) := by decide +kernel
theorem dX0_entry_65 : decode cX0_entry 65 = .ok (.aload_n 0, 1) := by decide +kernel
theorem dX0_entry_66 : decode cX0_entry 66 = .ok (.getfield 75, 3) := by decide +kernel
theorem dX0_entry_69 : decode cX0_entry 69 = .ok (.ireturn, 1) := by decide +kernel
theorem dX0_entry_70 : decode cX0_entry 70 = .ok (.iconst 0, 1) := by decide +kernel
theorem dX0_entry_71 : decode cX0_entry 71 = .ok (.ireturn, 1) := by decide +kernel
set_option maxRecDepth 20000 in
theorem ggX0_before_X0_areReals : GoodIn wsX0_before wsX0_areReals := goodIn_r _ [6, 7, 8, 5, 9, 10, 11] (by decide +kernel) (by decide +kernel)
set_option maxRecDepth 20000 in
theorem gX0_before_X0_areReals : GoodIn wsX0_before (va_wsS RX0 78 yX0_areReals wsX0_areReals) := goodIn_app (goodIn_of _ (by decide +kernel)) ggX0_before_X0_areReals
set_option maxRecDepth 20000 in
theorem ggX0_before_X0_turnedX : GoodIn wsX0_before wsX0_turnedX := goodIn_r _ [15, 16, 17, 18, 19, 5, 20, 21, 32, 33, 34, 35, 36, 37, 38, 39, 40, 41] (by decide +kernel) (by decide +kernel)
set_option maxRecDepth 20000 in
theorem gX0_before_X0_turnedX : GoodIn wsX0_before (wsV RX0 81 RX0 yX0_turnedX wsX0_turnedX) := goodIn_app (goodIn_of _ (by decide +kernel)) ggX0_before_X0_turnedX
set_option maxRecDepth 20000 in
theorem ggX0_before_X0_turnedY : GoodIn wsX0_before wsX0_turnedY := goodIn_r _ [25, 26, 27, 18, 19, 5, 20, 21, 32, 33, 34, 35, 36, 37, 38, 39, 40, 41] (by decide +kernel) (by decide +kernel)
set_option maxRecDepth 20000 in
theorem gX0_before_X0_turnedY : GoodIn wsX0_before (wsV RX0 84 RX0 yX0_turnedY wsX0_turnedY) := goodIn_app (goodIn_of _ (by decide +kernel)) ggX0_before_X0_turnedY
set_option maxRecDepth 20000 in
theorem ggX0_before_X0_keepMatrix : GoodIn wsX0_before wsX0_keepMatrix := goodIn_r _ [31, 16, 26, 17, 27, 1, 2, 3, 4, 5, 6, 7, 8, 9, 10, 11, 32, 33, 34, 35, 36, 37, 38, 39, 40, 41] (by decide +kernel) (by decide +kernel)
set_option maxRecDepth 20000 in
theorem gX0_before_X0_keepMatrix : GoodIn wsX0_before (wsV RX0 62 RX0 yX0_keepMatrix wsX0_keepMatrix) := goodIn_app (goodIn_of _ (by decide +kernel)) ggX0_before_X0_keepMatrix
theorem dX0_before_0 : decode cX0_before 0 = .ok (.iload_n 1, 1) := by decide +kernel
theorem dX0_before_1 : decode cX0_before 1 = .ok (.i2l, 1) := by decide +kernel
theorem dX0_before_2 : decode cX0_before 2 = .ok (.iload_n 2, 1) := by decide +kernel
theorem dX0_before_3 : decode cX0_before 3 = .ok (.i2l, 1) := by decide +kernel
theorem dX0_before_4 : decode cX0_before 4 = .ok (.iload_n 3, 1) := by decide +kernel
theorem dX0_before_5 : decode cX0_before 5 = .ok (.i2l, 1) := by decide +kernel
theorem dX0_before_6 : decode cX0_before 6 = .ok (.iload 4, 2) := by decide +kernel
theorem dX0_before_8 : decode cX0_before 8 = .ok (.i2l, 1) := by decide +kernel
theorem dX0_before_9 : decode cX0_before 9 = .ok (.iload 5, 2) := by decide +kernel
theorem dX0_before_11 : decode cX0_before 11 = .ok (.i2l, 1) := by decide +kernel
theorem dX0_before_12 : decode cX0_before 12 = .ok (.iload 6, 2) := by decide +kernel
theorem dX0_before_14 : decode cX0_before 14 = .ok (.i2l, 1) := by decide +kernel
theorem dX0_before_15 : decode cX0_before 15 = .ok (.invokestatic 78, 3) := by decide +kernel
theorem dX0_before_18 : decode cX0_before 18 = .ok (.ifCond .ne 5, 3) := by decide +kernel
theorem dX0_before_21 : decode cX0_before 21 = .ok (.iconst (-1), 1) := by decide +kernel
theorem dX0_before_22 : decode cX0_before 22 = .ok (.ireturn, 1) := by decide +kernel
theorem dX0_before_23 : decode cX0_before 23 = .ok (.aload_n 0, 1) := by decide +kernel
theorem dX0_before_24 : decode cX0_before 24 = .ok (.aload_n 0, 1) := by decide +kernel
theorem dX0_before_25 : decode cX0_before 25 = .ok (.iload_n 1, 1) := by decide +kernel
theorem dX0_before_26 : decode cX0_before 26 = .ok (.iload_n 2, 1) := by decide +kernel
theorem dX0_before_27 : decode cX0_before 27 = .ok (.invokevirtual 81, 3) := by decide +kernel
theorem dX0_before_30 : decode cX0_before 30 = .ok (.aload_n 0, 1) := by decide +kernel
theorem dX0_before_31 : decode cX0_before 31 = .ok (.iload_n 1, 1) := by decide +kernel
theorem dX0_before_32 : decode cX0_before 32 = .ok (.iload_n 2, 1) := by decide +kernel
theorem dX0_before_33 : decode cX0_before 33 = .ok (.invokevirtual 84, 3) := by decide +kernel
theorem dX0_before_36 : decode cX0_before 36 = .ok (.aload_n 0, 1) := by decide +kernel
theorem dX0_before_37 : decode cX0_before 37 = .ok (.iload_n 3, 1) := by decide +kernel
theorem dX0_before_38 : decode cX0_before 38 = .ok (.iload 4, 2) := by decide +kernel
theorem dX0_before_40 : decode cX0_before 40 = .ok (.invokevirtual 81, 3) := by decide +kernel
theorem dX0_before_43 : decode cX0_before 43 = .ok (.aload_n 0, 1) := by decide +kernel
theorem dX0_before_44 : decode cX0_before 44 = .ok (.iload_n 3, 1) := by decide +kernel
theorem dX0_before_45 : decode cX0_before 45 = .ok (.iload 4, 2) := by decide +kernel
theorem dX0_before_47 : decode cX0_before 47 = .ok (.invokevirtual 84, 3) := by decide +kernel
theorem dX0_before_50 : decode cX0_before 50 = .ok (.aload_n 0, 1) := by decide +kernel
theorem dX0_before_51 : decode cX0_before 51 = .ok (.iload 5, 2) := by decide +kernel
theorem dX0_before_53 : decode cX0_before 53 = .ok (.iload 6, 2) := by decide +kernel
theorem dX0_before_55 : decode cX0_before 55 = .ok (.invokevirtual 81, 3) := by decide +kernel
theorem dX0_before_58 : decode cX0_before 58 = .ok (.aload_n 0, 1) := by decide +kernel
theorem dX0_before_59 : decode cX0_before 59 = .ok (.getfield 72, 3) := by decide +kernel
theorem dX0_before_62 : decode cX0_before 62 = .ok (.i2l, 1) := by decide +kernel
theorem dX0_before_63 : decode cX0_before 63 = .ok (.ladd, 1) := by decide +kernel
theorem dX0_before_64 : decode cX0_before 64 = .ok (.aload_n 0, 1) := by decide +kernel
theorem dX0_before_65 : decode cX0_before 65 = .ok (.iload 5, 2) := by decide +kernel
theorem dX0_before_67 : decode cX0_before 67 = .ok (.iload 6, 2) := by decide +kernel
theorem dX0_before_69 : decode cX0_before 69 = .ok (.invokevirtual 84, 3) := by decide +kernel
theorem dX0_before_72 : decode cX0_before 72 = .ok (.aload_n 0, 1) := by decide +kernel
theorem dX0_before_73 : decode cX0_before 73 = .ok (.getfield 75, 3) := by decide +kernel
theorem dX0_before_76 : decode cX0_before 76 = .ok (.i2l, 1) := by decide +kernel
theorem dX0_before_77 : decode cX0_before 77 = .ok (.ladd, 1) := by decide +kernel
theorem dX0_before_78 : decode cX0_before 78 = .ok (.invokevirtual 62, 3) := by decide +kernel
theorem dX0_before_81 : decode cX0_before 81 = .ok (.istore 7, 2) := by decide +kernel
theorem dX0_before_83 : decode cX0_before 83 = .ok (.iload 7, 2) := by decide +kernel
theorem dX0_before_85 : decode cX0_before 85 = .ok (.ifCond .eq 7, 3) := by decide +kernel
theorem dX0_before_88 : decode cX0_before 88 = .ok (.iconst 1, 1) := by decide +kernel
theorem dX0_before_89 : decode cX0_before 89 = .ok (.goto 5, 3) := by decide +kernel
theorem dX0_before_92 : decode cX0_before 92 = .ok (.bipush (-2), 2) := by decide +kernel
theorem dX0_before_94 : decode cX0_before 94 = .ok (.ireturn, 1) := by decide +kernel
set_option maxRecDepth 20000 in
theorem ggX0_invert_X0_cross : GoodIn wsX0_invert wsX0_cross := goodIn_r _ [11] (by decide +kernel) (by decide +kernel)
set_option maxRecDepth 20000 in
theorem gX0_invert_X0_cross : GoodIn wsX0_invert (va_wsS RX0 87 yX0_cross wsX0_cross) := goodIn_app (goodIn_of _ (by decide +kernel)) ggX0_invert_X0_cross
set_option maxRecDepth 20000 in
theorem ggX0_invert_X0_quotient : GoodIn wsX0_invert wsX0_quotient := goodIn_r _ [14, 15, 16, 17, 18, 19, 20, 21, 22, 23, 24, 25, 26, 27, 28, 29] (by decide +kernel) (by decide +kernel)
set_option maxRecDepth 20000 in
theorem gX0_invert_X0_quotient : GoodIn wsX0_invert (va_wsS RX0 93 yX0_quotient wsX0_quotient) := goodIn_app (goodIn_of _ (by decide +kernel)) ggX0_invert_X0_quotient
set_option maxRecDepth 20000 in
theorem ggX0_invert_X0_keepMatrix : GoodIn wsX0_invert wsX0_keepMatrix := goodIn_r _ [33, 1, 3, 4, 2, 7, 6, 34, 35, 10, 36, 37, 38, 39, 40, 41, 42, 43, 44, 45, 46, 47, 48, 49, 50, 51] (by decide +kernel) (by decide +kernel)
set_option maxRecDepth 20000 in
theorem gX0_invert_X0_keepMatrix : GoodIn wsX0_invert (wsV RX0 62 RX0 yX0_keepMatrix wsX0_keepMatrix) := goodIn_app (goodIn_of _ (by decide +kernel)) ggX0_invert_X0_keepMatrix
theorem dX0_invert_0 : decode cX0_invert 0 = .ok (.aload_n 0, 1) := by decide +kernel
theorem dX0_invert_1 : decode cX0_invert 1 = .ok (.getfield 16, 3) := by decide +kernel
theorem dX0_invert_4 : decode cX0_invert 4 = .ok (.aload_n 0, 1) := by decide +kernel
theorem dX0_invert_5 : decode cX0_invert 5 = .ok (.getfield 19, 3) := by decide +kernel
theorem dX0_invert_8 : decode cX0_invert 8 = .ok (.aload_n 0, 1) := by decide +kernel
theorem dX0_invert_9 : decode cX0_invert 9 = .ok (.getfield 66, 3) := by decide +kernel
theorem dX0_invert_12 : decode cX0_invert 12 = .ok (.aload_n 0, 1) := by decide +kernel
theorem dX0_invert_13 : decode cX0_invert 13 = .ok (.getfield 69, 3) := by decide +kernel
theorem dX0_invert_16 : decode cX0_invert 16 = .ok (.invokestatic 87, 3) := by decide +kernel
theorem dX0_invert_19 : decode cX0_invert 19 = .ok (.lstore_n 1, 1) := by decide +kernel
theorem dX0_invert_20 : decode cX0_invert 20 = .ok (.lload_n 1, 1) := by decide +kernel
theorem dX0_invert_21 : decode cX0_invert 21 = .ok (.lconst 0, 1) := by decide +kernel
theorem dX0_invert_22 : decode cX0_invert 22 = .ok (.lcmp, 1) := by decide +kernel
theorem dX0_invert_23 : decode cX0_invert 23 = .ok (.ifCond .ne 6, 3) := by decide +kernel
theorem dX0_invert_26 : decode cX0_invert 26 = .ok (.bipush (-3), 2) := by decide +kernel
theorem dX0_invert_28 : decode cX0_invert 28 = .ok (.ireturn, 1) := by decide +kernel
theorem dX0_invert_29 : decode cX0_invert 29 = .ok (.aload_n 0, 1) := by decide +kernel
theorem dX0_invert_30 : decode cX0_invert 30 = .ok (.aload_n 0, 1) := by decide +kernel
theorem dX0_invert_31 : decode cX0_invert 31 = .ok (.getfield 19, 3) := by decide +kernel
theorem dX0_invert_34 : decode cX0_invert 34 = .ok (.i2l, 1) := by decide +kernel
theorem dX0_invert_35 : decode cX0_invert 35 = .ok (.ldc2_w 91, 3) := by decide +kernel
theorem dX0_invert_38 : decode cX0_invert 38 = .ok (.lmul, 1) := by decide +kernel
theorem dX0_invert_39 : decode cX0_invert 39 = .ok (.lload_n 1, 1) := by decide +kernel
theorem dX0_invert_40 : decode cX0_invert 40 = .ok (.invokestatic 93, 3) := by decide +kernel
theorem dX0_invert_43 : decode cX0_invert 43 = .ok (.aload_n 0, 1) := by decide +kernel
theorem dX0_invert_44 : decode cX0_invert 44 = .ok (.getfield 66, 3) := by decide +kernel
theorem dX0_invert_47 : decode cX0_invert 47 = .ok (.i2l, 1) := by decide +kernel
theorem dX0_invert_48 : decode cX0_invert 48 = .ok (.lneg, 1) := by decide +kernel
theorem dX0_invert_49 : decode cX0_invert 49 = .ok (.ldc2_w 91, 3) := by decide +kernel
theorem dX0_invert_52 : decode cX0_invert 52 = .ok (.lmul, 1) := by decide +kernel
theorem dX0_invert_53 : decode cX0_invert 53 = .ok (.lload_n 1, 1) := by decide +kernel
theorem dX0_invert_54 : decode cX0_invert 54 = .ok (.invokestatic 93, 3) := by decide +kernel
theorem dX0_invert_57 : decode cX0_invert 57 = .ok (.aload_n 0, 1) := by decide +kernel
theorem dX0_invert_58 : decode cX0_invert 58 = .ok (.getfield 69, 3) := by decide +kernel
theorem dX0_invert_61 : decode cX0_invert 61 = .ok (.i2l, 1) := by decide +kernel
theorem dX0_invert_62 : decode cX0_invert 62 = .ok (.lneg, 1) := by decide +kernel
theorem dX0_invert_63 : decode cX0_invert 63 = .ok (.ldc2_w 91, 3) := by decide +kernel
theorem dX0_invert_66 : decode cX0_invert 66 = .ok (.lmul, 1) := by decide +kernel
theorem dX0_invert_67 : decode cX0_invert 67 = .ok (.lload_n 1, 1) := by decide +kernel
theorem dX0_invert_68 : decode cX0_invert 68 = .ok (.invokestatic 93, 3) := by decide +kernel
theorem dX0_invert_71 : decode cX0_invert 71 = .ok (.aload_n 0, 1) := by decide +kernel
theorem dX0_invert_72 : decode cX0_invert 72 = .ok (.getfield 16, 3) := by decide +kernel
theorem dX0_invert_75 : decode cX0_invert 75 = .ok (.i2l, 1) := by decide +kernel
theorem dX0_invert_76 : decode cX0_invert 76 = .ok (.ldc2_w 91, 3) := by decide +kernel
theorem dX0_invert_79 : decode cX0_invert 79 = .ok (.lmul, 1) := by decide +kernel
theorem dX0_invert_80 : decode cX0_invert 80 = .ok (.lload_n 1, 1) := by decide +kernel
theorem dX0_invert_81 : decode cX0_invert 81 = .ok (.invokestatic 93, 3) := by decide +kernel
theorem dX0_invert_84 : decode cX0_invert 84 = .ok (.aload_n 0, 1) := by decide +kernel
theorem dX0_invert_85 : decode cX0_invert 85 = .ok (.getfield 69, 3) := by decide +kernel
theorem dX0_invert_88 : decode cX0_invert 88 = .ok (.aload_n 0, 1) := by decide +kernel
theorem dX0_invert_89 : decode cX0_invert 89 = .ok (.getfield 75, 3) := by decide +kernel
theorem dX0_invert_92 : decode cX0_invert 92 = .ok (.aload_n 0, 1) := by decide +kernel
theorem dX0_invert_93 : decode cX0_invert 93 = .ok (.getfield 19, 3) := by decide +kernel
theorem dX0_invert_96 : decode cX0_invert 96 = .ok (.aload_n 0, 1) := by decide +kernel
theorem dX0_invert_97 : decode cX0_invert 97 = .ok (.getfield 72, 3) := by decide +kernel
theorem dX0_invert_100 : decode cX0_invert 100 = .ok (.invokestatic 87, 3) := by decide +kernel
theorem dX0_invert_103 : decode cX0_invert 103 = .ok (.lload_n 1, 1) := by decide +kernel
theorem dX0_invert_104 : decode cX0_invert 104 = .ok (.invokestatic 93, 3) := by decide +kernel
theorem dX0_invert_107 : decode cX0_invert 107 = .ok (.aload_n 0, 1) := by decide +kernel
theorem dX0_invert_108 : decode cX0_invert 108 = .ok (.getfield 66, 3) := by decide +kernel
theorem dX0_invert_111 : decode cX0_invert 111 = .ok (.aload_n 0, 1) := by decide +kernel
theorem dX0_invert_112 : decode cX0_invert 112 = .ok (.getfield 72, 3) := by decide +kernel
theorem dX0_invert_115 : decode cX0_invert 115 = .ok (.aload_n 0, 1) := by decide +kernel
theorem dX0_invert_116 : decode cX0_invert 116 = .ok (.getfield 16, 3) := by decide +kernel
theorem dX0_invert_119 : decode cX0_invert 119 = .ok (.aload_n 0, 1) := by decide +kernel
theorem dX0_invert_120 : decode cX0_invert 120 = .ok (.getfield 75, 3) := by decide +kernel
theorem dX0_invert_123 : decode cX0_invert 123 = .ok (.invokestatic 87, 3) := by decide +kernel
theorem dX0_invert_126 : decode cX0_invert 126 = .ok (.lload_n 1, 1) := by decide +kernel
theorem dX0_invert_127 : decode cX0_invert 127 = .ok (.invokestatic 93, 3) := by decide +kernel
theorem dX0_invert_130 : decode cX0_invert 130 = .ok (.invokevirtual 62, 3) := by decide +kernel
theorem dX0_invert_133 : decode cX0_invert 133 = .ok (.istore_n 3, 1) := by decide +kernel
theorem dX0_invert_134 : decode cX0_invert 134 = .ok (.iload_n 3, 1) := by decide +kernel
theorem dX0_invert_135 : decode cX0_invert 135 = .ok (.ifCond .eq 7, 3) := by decide +kernel
theorem dX0_invert_138 : decode cX0_invert 138 = .ok (.iconst 1, 1) := by decide +kernel
theorem dX0_invert_139 : decode cX0_invert 139 = .ok (.goto 5, 3) := by decide +kernel
theorem dX0_invert_142 : decode cX0_invert 142 = .ok (.bipush (-2), 2) := by decide +kernel
theorem dX0_invert_144 : decode cX0_invert 144 = .ok (.ireturn, 1) := by decide +kernel
set_option maxRecDepth 20000 in
theorem ggX0_move_X0_isReal : GoodIn wsX0_move wsX0_isReal := goodIn_r _ [8, 9, 10] (by decide +kernel) (by decide +kernel)
set_option maxRecDepth 20000 in
theorem gX0_move_X0_isReal : GoodIn wsX0_move (va_wsS RX0 38 yX0_isReal wsX0_isReal) := goodIn_app (goodIn_of _ (by decide +kernel)) ggX0_move_X0_isReal
set_option maxRecDepth 20000 in
theorem ggX0_move_X0_turnedX : GoodIn wsX0_move wsX0_turnedX := goodIn_r _ [14, 15, 16, 17, 18, 7, 19, 20, 27, 28, 29, 30, 31, 32, 33, 34, 35, 36] (by decide +kernel) (by decide +kernel)
set_option maxRecDepth 20000 in
theorem gX0_move_X0_turnedX : GoodIn wsX0_move (wsV RX0 81 RX0 yX0_turnedX wsX0_turnedX) := goodIn_app (goodIn_of _ (by decide +kernel)) ggX0_move_X0_turnedX
set_option maxRecDepth 20000 in
theorem ggX0_move_X0_turnedY : GoodIn wsX0_move wsX0_turnedY := goodIn_r _ [24, 25, 26, 17, 18, 7, 19, 20, 27, 28, 29, 30, 31, 32, 33, 34, 35, 36] (by decide +kernel) (by decide +kernel)
set_option maxRecDepth 20000 in
theorem gX0_move_X0_turnedY : GoodIn wsX0_move (wsV RX0 84 RX0 yX0_turnedY wsX0_turnedY) := goodIn_app (goodIn_of _ (by decide +kernel)) ggX0_move_X0_turnedY
theorem dX0_move_0 : decode cX0_move 0 = .ok (.iload_n 1, 1) := by decide +kernel
theorem dX0_move_1 : decode cX0_move 1 = .ok (.i2l, 1) := by decide +kernel
theorem dX0_move_2 : decode cX0_move 2 = .ok (.invokestatic 38, 3) := by decide +kernel
theorem dX0_move_5 : decode cX0_move 5 = .ok (.ifCond .eq 11, 3) := by decide +kernel
theorem dX0_move_8 : decode cX0_move 8 = .ok (.iload_n 2, 1) := by decide +kernel
theorem dX0_move_9 : decode cX0_move 9 = .ok (.i2l, 1) := by decide +kernel
theorem dX0_move_10 : decode cX0_move 10 = .ok (.invokestatic 38, 3) := by decide +kernel
theorem dX0_move_13 : decode cX0_move 13 = .ok (.ifCond .ne 5, 3) := by decide +kernel
theorem dX0_move_16 : decode cX0_move 16 = .ok (.iconst (-1), 1) := by decide +kernel
theorem dX0_move_17 : decode cX0_move 17 = .ok (.ireturn, 1) := by decide +kernel
theorem dX0_move_18 : decode cX0_move 18 = .ok (.aload_n 0, 1) := by decide +kernel
theorem dX0_move_19 : decode cX0_move 19 = .ok (.iload_n 1, 1) := by decide +kernel
theorem dX0_move_20 : decode cX0_move 20 = .ok (.iload_n 2, 1) := by decide +kernel
theorem dX0_move_21 : decode cX0_move 21 = .ok (.invokevirtual 81, 3) := by decide +kernel
theorem dX0_move_24 : decode cX0_move 24 = .ok (.iload_n 3, 1) := by decide +kernel
theorem dX0_move_25 : decode cX0_move 25 = .ok (.ifCond .eq 10, 3) := by decide +kernel
theorem dX0_move_28 : decode cX0_move 28 = .ok (.aload_n 0, 1) := by decide +kernel
theorem dX0_move_29 : decode cX0_move 29 = .ok (.getfield 72, 3) := by decide +kernel
theorem dX0_move_32 : decode cX0_move 32 = .ok (.goto 4, 3) := by decide +kernel
theorem dX0_move_35 : decode cX0_move 35 = .ok (.iconst 0, 1) := by decide +kernel
theorem dX0_move_36 : decode cX0_move 36 = .ok (.i2l, 1) := by decide +kernel
theorem dX0_move_37 : decode cX0_move 37 = .ok (.ladd, 1) := by decide +kernel
theorem dX0_move_38 : decode cX0_move 38 = .ok (.lstore 4, 2) := by decide +kernel
theorem dX0_move_40 : decode cX0_move 40 = .ok (.aload_n 0, 1) := by decide +kernel
theorem dX0_move_41 : decode cX0_move 41 = .ok (.iload_n 1, 1) := by decide +kernel
theorem dX0_move_42 : decode cX0_move 42 = .ok (.iload_n 2, 1) := by decide +kernel
theorem dX0_move_43 : decode cX0_move 43 = .ok (.invokevirtual 84, 3) := by decide +kernel
theorem dX0_move_46 : decode cX0_move 46 = .ok (.iload_n 3, 1) := by decide +kernel
theorem dX0_move_47 : decode cX0_move 47 = .ok (.ifCond .eq 10, 3) := by decide +kernel
theorem dX0_move_50 : decode cX0_move 50 = .ok (.aload_n 0, 1) := by decide +kernel
theorem dX0_move_51 : decode cX0_move 51 = .ok (.getfield 75, 3) := by decide +kernel
theorem dX0_move_54 : decode cX0_move 54 = .ok (.goto 4, 3) := by decide +kernel
theorem dX0_move_57 : decode cX0_move 57 = .ok (.iconst 0, 1) := by decide +kernel
theorem dX0_move_58 : decode cX0_move 58 = .ok (.i2l, 1) := by decide +kernel
theorem dX0_move_59 : decode cX0_move 59 = .ok (.ladd, 1) := by decide +kernel
theorem dX0_move_60 : decode cX0_move 60 = .ok (.lstore 6, 2) := by decide +kernel
theorem dX0_move_62 : decode cX0_move 62 = .ok (.lload 4, 2) := by decide +kernel
theorem dX0_move_64 : decode cX0_move 64 = .ok (.invokestatic 38, 3) := by decide +kernel
theorem dX0_move_67 : decode cX0_move 67 = .ok (.ifCond .eq 11, 3) := by decide +kernel
theorem dX0_move_70 : decode cX0_move 70 = .ok (.lload 6, 2) := by decide +kernel
theorem dX0_move_72 : decode cX0_move 72 = .ok (.invokestatic 38, 3) := by decide +kernel
theorem dX0_move_75 : decode cX0_move 75 = .ok (.ifCond .ne 6, 3) := by decide +kernel
theorem dX0_move_78 : decode cX0_move 78 = .ok (.bipush (-2), 2) := by decide +kernel
theorem dX0_move_80 : decode cX0_move 80 = .ok (.ireturn, 1) := by decide +kernel
theorem dX0_move_81 : decode cX0_move 81 = .ok (.aload_n 0, 1) := by decide +kernel
theorem dX0_move_82 : decode cX0_move 82 = .ok (.lload 4, 2) := by decide +kernel
theorem dX0_move_84 : decode cX0_move 84 = .ok (.l2i, 1) := by decide +kernel
theorem dX0_move_85 : decode cX0_move 85 = .ok (.putfield 97, 3) := by decide +kernel
theorem dX0_move_88 : decode cX0_move 88 = .ok (.aload_n 0, 1) := by decide +kernel
theorem dX0_move_89 : decode cX0_move 89 = .ok (.lload 6, 2) := by decide +kernel
theorem dX0_move_91 : decode cX0_move 91 = .ok (.l2i, 1) := by decide +kernel
theorem dX0_move_92 : decode cX0_move 92 = .ok (.putfield 100, 3) := by decide +kernel
theorem dX0_move_95 : decode cX0_move 95 = .ok (.iconst 1, 1) := by decide +kernel
theorem dX0_move_96 : decode cX0_move 96 = .ok (.ireturn, 1) := by decide +kernel
theorem dX0_moved_0 : decode cX0_moved 0 = .ok (.iload_n 1, 1) := by decide +kernel
theorem dX0_moved_1 : decode cX0_moved 1 = .ok (.ifCond .ne 8, 3) := by decide +kernel
theorem dX0_moved_4 : decode cX0_moved 4 = .ok (.aload_n 0, 1) := by decide +kernel
theorem dX0_moved_5 : decode cX0_moved 5 = .ok (.getfield 97, 3) := by decide +kernel
theorem dX0_moved_8 : decode cX0_moved 8 = .ok (.ireturn, 1) := by decide +kernel
theorem dX0_moved_9 : decode cX0_moved 9 = .ok (.iload_n 1, 1) := by decide +kernel
theorem dX0_moved_10 : decode cX0_moved 10 = .ok (.iconst 1, 1) := by decide +kernel
theorem dX0_moved_11 : decode cX0_moved 11 = .ok (.if_icmp .ne 10, 3) := by decide +kernel
theorem dX0_moved_14 : decode cX0_moved 14 = .ok (.aload_n 0, 1) := by decide +kernel
theorem dX0_moved_15 : decode cX0_moved 15 = .ok (.getfield 100, 3) := by decide +kernel
theorem dX0_moved_18 : decode cX0_moved 18 = .ok (.goto 4, 3) := by decide +kernel
theorem dX0_moved_21 : decode cX0_moved 21 = .ok (.iconst 0, 1) := by decide +kernel
theorem dX0_moved_22 : decode cX0_moved 22 = .ok (.ireturn, 1) := by decide +kernel
set_option maxRecDepth 20000 in
theorem ggX0_isValue_X0_isReal : GoodIn wsX0_isValue wsX0_isReal := goodIn_r _ [4, 5, 6] (by decide +kernel) (by decide +kernel)
set_option maxRecDepth 20000 in
theorem gX0_isValue_X0_isReal : GoodIn wsX0_isValue (va_wsS RX0 38 yX0_isReal wsX0_isReal) := goodIn_app (goodIn_of _ (by decide +kernel)) ggX0_isValue_X0_isReal
theorem dX0_isValue_0 : decode cX0_isValue 0 = .ok (.iload_n 0, 1) := by decide +kernel
theorem dX0_isValue_1 : decode cX0_isValue 1 = .ok (.iconst 1, 1) := by decide +kernel
theorem dX0_isValue_2 : decode cX0_isValue 2 = .ok (.if_icmp .eq 16, 3) := by decide +kernel
theorem dX0_isValue_5 : decode cX0_isValue 5 = .ok (.iload_n 0, 1) := by decide +kernel
theorem dX0_isValue_6 : decode cX0_isValue 6 = .ok (.iconst 2, 1) := by decide +kernel
theorem dX0_isValue_7 : decode cX0_isValue 7 = .ok (.if_icmp .ne 15, 3) := by decide +kernel
theorem dX0_isValue_10 : decode cX0_isValue 10 = .ok (.iload_n 1, 1) := by decide +kernel
theorem dX0_isValue_11 : decode cX0_isValue 11 = .ok (.i2l, 1) := by decide +kernel
theorem dX0_isValue_12 : decode cX0_isValue 12 = .ok (.invokestatic 38, 3) := by decide +kernel
theorem dX0_isValue_15 : decode cX0_isValue 15 = .ok (.ifCond .eq 7, 3) := by decide +kernel
theorem dX0_isValue_18 : decode cX0_isValue 18 = .ok (.iconst 1, 1) := by decide +kernel
theorem dX0_isValue_19 : decode cX0_isValue 19 = .ok (.goto 4, 3) := by decide +kernel
theorem dX0_isValue_22 : decode cX0_isValue 22 = .ok (.iconst 0, 1) := by decide +kernel
theorem dX0_isValue_23 : decode cX0_isValue 23 = .ok (.ireturn, 1) := by decide +kernel
theorem dX0_isReal_0 : decode cX0_isReal 0 = .ok (.lload_n 0, 1) := by decide +kernel
theorem dX0_isReal_1 : decode cX0_isReal 1 = .ok (.ldc2_w 103, 3) := by decide +kernel
theorem dX0_isReal_4 : decode cX0_isReal 4 = .ok (.lcmp, 1) := by decide +kernel
theorem dX0_isReal_5 : decode cX0_isReal 5 = .ok (.ifCond .lt 15, 3) := by decide +kernel
theorem dX0_isReal_8 : decode cX0_isReal 8 = .ok (.lload_n 0, 1) := by decide +kernel
theorem dX0_isReal_9 : decode cX0_isReal 9 = .ok (.ldc2_w 105, 3) := by decide +kernel
theorem dX0_isReal_12 : decode cX0_isReal 12 = .ok (.lcmp, 1) := by decide +kernel
theorem dX0_isReal_13 : decode cX0_isReal 13 = .ok (.ifCond .gt 7, 3) := by decide +kernel
theorem dX0_isReal_16 : decode cX0_isReal 16 = .ok (.iconst 1, 1) := by decide +kernel
theorem dX0_isReal_17 : decode cX0_isReal 17 = .ok (.goto 4, 3) := by decide +kernel
theorem dX0_isReal_20 : decode cX0_isReal 20 = .ok (.iconst 0, 1) := by decide +kernel
theorem dX0_isReal_21 : decode cX0_isReal 21 = .ok (.ireturn, 1) := by decide +kernel
set_option maxRecDepth 20000 in
theorem ggX0_areReals_X0_isReal : GoodIn wsX0_areReals wsX0_isReal := goodIn_r _ [4, 5, 6] (by decide +kernel) (by decide +kernel)
set_option maxRecDepth 20000 in
theorem gX0_areReals_X0_isReal : GoodIn wsX0_areReals (va_wsS RX0 38 yX0_isReal wsX0_isReal) := goodIn_app (goodIn_of _ (by decide +kernel)) ggX0_areReals_X0_isReal
theorem dX0_areReals_0 : decode cX0_areReals 0 = .ok (.lload_n 0, 1) := by decide +kernel
theorem dX0_areReals_1 : decode cX0_areReals 1 = .ok (.invokestatic 38, 3) := by decide +kernel
theorem dX0_areReals_4 : decode cX0_areReals 4 = .ok (.ifCond .eq 46, 3) := by decide +kernel
theorem dX0_areReals_7 : decode cX0_areReals 7 = .ok (.lload_n 2, 1) := by decide +kernel
theorem dX0_areReals_8 : decode cX0_areReals 8 = .ok (.invokestatic 38, 3) := by decide +kernel
theorem dX0_areReals_11 : decode cX0_areReals 11 = .ok (.ifCond .eq 39, 3) := by decide +kernel
theorem dX0_areReals_14 : decode cX0_areReals 14 = .ok (.lload 4, 2) := by decide +kernel
theorem dX0_areReals_16 : decode cX0_areReals 16 = .ok (.invokestatic 38, 3) := by decide +kernel
theorem dX0_areReals_19 : decode cX0_areReals 19 = .ok (.ifCond .eq 31, 3) := by decide +kernel
theorem dX0_areReals_22 : decode cX0_areReals 22 = .ok (.lload 6, 2) := by decide +kernel
theorem dX0_areReals_24 : decode cX0_areReals 24 = .ok (.invokestatic 38, 3) := by decide +kernel
theorem dX0_areReals_27 : decode cX0_areReals 27 = .ok (.ifCond .eq 23, 3) := by decide +kernel
theorem dX0_areReals_30 : decode cX0_areReals 30 = .ok (.lload 8, 2) := by decide +kernel
theorem dX0_areReals_32 : decode cX0_areReals 32 = .ok (.invokestatic 38, 3) := by decide +kernel
theorem dX0_areReals_35 : decode cX0_areReals 35 = .ok (.ifCond .eq 15, 3) := by decide +kernel
theorem dX0_areReals_38 : decode cX0_areReals 38 = .ok (.lload 10, 2) := by decide +kernel
theorem dX0_areReals_40 : decode cX0_areReals 40 = .ok (.invokestatic 38, 3) := by decide +kernel
theorem dX0_areReals_43 : decode cX0_areReals 43 = .ok (.ifCond .eq 7, 3) := by decide +kernel
theorem dX0_areReals_46 : decode cX0_areReals 46 = .ok (.iconst 1, 1) := by decide +kernel
theorem dX0_areReals_47 : decode cX0_areReals 47 = .ok (.goto 4, 3) := by decide +kernel
theorem dX0_areReals_50 : decode cX0_areReals 50 = .ok (.iconst 0, 1) := by decide +kernel
theorem dX0_areReals_51 : decode cX0_areReals 51 = .ok (.ireturn, 1) := by decide +kernel
theorem dX0_units_0 : decode cX0_units 0 = .ok (.iload_n 0, 1) := by decide +kernel
theorem dX0_units_1 : decode cX0_units 1 = .ok (.iconst 1, 1) := by decide +kernel
theorem dX0_units_2 : decode cX0_units 2 = .ok (.if_icmp .ne 12, 3) := by decide +kernel
theorem dX0_units_5 : decode cX0_units 5 = .ok (.iload_n 1, 1) := by decide +kernel
theorem dX0_units_6 : decode cX0_units 6 = .ok (.i2l, 1) := by decide +kernel
theorem dX0_units_7 : decode cX0_units 7 = .ok (.ldc2_w 91, 3) := by decide +kernel
theorem dX0_units_10 : decode cX0_units 10 = .ok (.lmul, 1) := by decide +kernel
theorem dX0_units_11 : decode cX0_units 11 = .ok (.goto 5, 3) := by decide +kernel
theorem dX0_units_14 : decode cX0_units 14 = .ok (.iload_n 1, 1) := by decide +kernel
theorem dX0_units_15 : decode cX0_units 15 = .ok (.i2l, 1) := by decide +kernel
theorem dX0_units_16 : decode cX0_units 16 = .ok (.lreturn, 1) := by decide +kernel
theorem dX0_isForWholesAlone_0 : decode cX0_isForWholesAlone 0 = .ok (.iload_n 0, 1) := by decide +kernel
theorem dX0_isForWholesAlone_1 : decode cX0_isForWholesAlone 1 = .ok (.iconst 4, 1) := by decide +kernel
theorem dX0_isForWholesAlone_2 : decode cX0_isForWholesAlone 2 = .ok (.if_icmp .eq 14, 3) := by decide +kernel
theorem dX0_isForWholesAlone_5 : decode cX0_isForWholesAlone 5 = .ok (.iload_n 0, 1) := by decide +kernel
theorem dX0_isForWholesAlone_6 : decode cX0_isForWholesAlone 6 = .ok (.iconst 5, 1) := by decide +kernel
theorem dX0_isForWholesAlone_7 : decode cX0_isForWholesAlone 7 = .ok (.if_icmp .eq 9, 3) := by decide +kernel
theorem dX0_isForWholesAlone_10 : decode cX0_isForWholesAlone 10 = .ok (.iload_n 0, 1) := by decide +kernel
theorem dX0_isForWholesAlone_11 : decode cX0_isForWholesAlone 11 = .ok (.bipush 7, 2) := by decide +kernel
theorem dX0_isForWholesAlone_13 : decode cX0_isForWholesAlone 13 = .ok (.if_icmp .lt 7, 3) := by decide +kernel
theorem dX0_isForWholesAlone_16 : decode cX0_isForWholesAlone 16 = .ok (.iconst 1, 1) := by decide +kernel
theorem dX0_isForWholesAlone_17 : decode cX0_isForWholesAlone 17 = .ok (.goto 4, 3) := by decide +kernel
theorem dX0_isForWholesAlone_20 : decode cX0_isForWholesAlone 20 = .ok (.iconst 0, 1) := by decide +kernel
theorem dX0_isForWholesAlone_21 : decode cX0_isForWholesAlone 21 = .ok (.ireturn, 1) := by decide +kernel
theorem dX0_isAsAReal_0 : decode cX0_isAsAReal 0 = .ok (.iload_n 0, 1) := by decide +kernel
theorem dX0_isAsAReal_1 : decode cX0_isAsAReal 1 = .ok (.bipush 6, 2) := by decide +kernel
theorem dX0_isAsAReal_3 : decode cX0_isAsAReal 3 = .ok (.if_icmp .eq 21, 3) := by decide +kernel
theorem dX0_isAsAReal_6 : decode cX0_isAsAReal 6 = .ok (.iload_n 0, 1) := by decide +kernel
theorem dX0_isAsAReal_7 : decode cX0_isAsAReal 7 = .ok (.bipush 7, 2) := by decide +kernel
theorem dX0_isAsAReal_9 : decode cX0_isAsAReal 9 = .ok (.if_icmp .eq 15, 3) := by decide +kernel
theorem dX0_isAsAReal_12 : decode cX0_isAsAReal 12 = .ok (.iload_n 0, 1) := by decide +kernel
theorem dX0_isAsAReal_13 : decode cX0_isAsAReal 13 = .ok (.bipush 8, 2) := by decide +kernel
theorem dX0_isAsAReal_15 : decode cX0_isAsAReal 15 = .ok (.if_icmp .eq 9, 3) := by decide +kernel
theorem dX0_isAsAReal_18 : decode cX0_isAsAReal 18 = .ok (.iload_n 0, 1) := by decide +kernel
theorem dX0_isAsAReal_19 : decode cX0_isAsAReal 19 = .ok (.bipush 10, 2) := by decide +kernel
theorem dX0_isAsAReal_21 : decode cX0_isAsAReal 21 = .ok (.if_icmp .ne 7, 3) := by decide +kernel
theorem dX0_isAsAReal_24 : decode cX0_isAsAReal 24 = .ok (.iconst 1, 1) := by decide +kernel
theorem dX0_isAsAReal_25 : decode cX0_isAsAReal 25 = .ok (.goto 4, 3) := by decide +kernel
theorem dX0_isAsAReal_28 : decode cX0_isAsAReal 28 = .ok (.iconst 0, 1) := by decide +kernel
theorem dX0_isAsAReal_29 : decode cX0_isAsAReal 29 = .ok (.ireturn, 1) := by decide +kernel
set_option maxRecDepth 20000 in
theorem ggX0_ofWholes_X0_keep : GoodIn wsX0_ofWholes wsX0_keep := goodIn_r _ [5, 6, 7, 8, 9, 4, 10, 11, 12, 16, 17, 18, 19, 20, 21, 22, 23, 24, 25] (by decide +kernel) (by decide +kernel)
set_option maxRecDepth 20000 in
theorem gX0_ofWholes_X0_keep : GoodIn wsX0_ofWholes (wsV RX0 46 RX0 yX0_keep wsX0_keep) := goodIn_app (goodIn_of _ (by decide +kernel)) ggX0_ofWholes_X0_keep
set_option maxRecDepth 20000 in
theorem ggX0_ofWholes_X0_shifted : GoodIn wsX0_ofWholes wsX0_shifted := goodIn_r _ [15] (by decide +kernel) (by decide +kernel)
set_option maxRecDepth 20000 in
theorem gX0_ofWholes_X0_shifted : GoodIn wsX0_ofWholes (va_wsS RX0 107 yX0_shifted wsX0_shifted) := goodIn_app (goodIn_of _ (by decide +kernel)) ggX0_ofWholes_X0_shifted
theorem dX0_ofWholes_0 : decode cX0_ofWholes 0 = .ok (.iload_n 1, 1) := by decide +kernel
theorem dX0_ofWholes_1 : decode cX0_ofWholes 1 = .ok (.tableswitch 158 0 9 #[55, 66, 77, 158, 88, 108, 158, 128, 138, 148], 55) := by decide +kernel
theorem dX0_ofWholes_56 : decode cX0_ofWholes 56 = .ok (.aload_n 0, 1) := by decide +kernel
theorem dX0_ofWholes_57 : decode cX0_ofWholes 57 = .ok (.iconst 1, 1) := by decide +kernel
theorem dX0_ofWholes_58 : decode cX0_ofWholes 58 = .ok (.iload_n 2, 1) := by decide +kernel
theorem dX0_ofWholes_59 : decode cX0_ofWholes 59 = .ok (.i2l, 1) := by decide +kernel
theorem dX0_ofWholes_60 : decode cX0_ofWholes 60 = .ok (.iload_n 3, 1) := by decide +kernel
theorem dX0_ofWholes_61 : decode cX0_ofWholes 61 = .ok (.i2l, 1) := by decide +kernel
theorem dX0_ofWholes_62 : decode cX0_ofWholes 62 = .ok (.ladd, 1) := by decide +kernel
theorem dX0_ofWholes_63 : decode cX0_ofWholes 63 = .ok (.invokevirtual 46, 3) := by decide +kernel
theorem dX0_ofWholes_66 : decode cX0_ofWholes 66 = .ok (.ireturn, 1) := by decide +kernel
theorem dX0_ofWholes_67 : decode cX0_ofWholes 67 = .ok (.aload_n 0, 1) := by decide +kernel
theorem dX0_ofWholes_68 : decode cX0_ofWholes 68 = .ok (.iconst 1, 1) := by decide +kernel
theorem dX0_ofWholes_69 : decode cX0_ofWholes 69 = .ok (.iload_n 2, 1) := by decide +kernel
theorem dX0_ofWholes_70 : decode cX0_ofWholes 70 = .ok (.i2l, 1) := by decide +kernel
theorem dX0_ofWholes_71 : decode cX0_ofWholes 71 = .ok (.iload_n 3, 1) := by decide +kernel
theorem dX0_ofWholes_72 : decode cX0_ofWholes 72 = .ok (.i2l, 1) := by decide +kernel
theorem dX0_ofWholes_73 : decode cX0_ofWholes 73 = .ok (.lsub, 1) := by decide +kernel
theorem dX0_ofWholes_74 : decode cX0_ofWholes 74 = .ok (.invokevirtual 46, 3) := by decide +kernel
theorem dX0_ofWholes_77 : decode cX0_ofWholes 77 = .ok (.ireturn, 1) := by decide +kernel
theorem dX0_ofWholes_78 : decode cX0_ofWholes 78 = .ok (.aload_n 0, 1) := by decide +kernel
theorem dX0_ofWholes_79 : decode cX0_ofWholes 79 = .ok (.iconst 1, 1) := by decide +kernel
theorem dX0_ofWholes_80 : decode cX0_ofWholes 80 = .ok (.iload_n 2, 1) := by decide +kernel
theorem dX0_ofWholes_81 : decode cX0_ofWholes 81 = .ok (.i2l, 1) := by decide +kernel
theorem dX0_ofWholes_82 : decode cX0_ofWholes 82 = .ok (.iload_n 3, 1) := by decide +kernel
theorem dX0_ofWholes_83 : decode cX0_ofWholes 83 = .ok (.i2l, 1) := by decide +kernel
theorem dX0_ofWholes_84 : decode cX0_ofWholes 84 = .ok (.lmul, 1) := by decide +kernel
theorem dX0_ofWholes_85 : decode cX0_ofWholes 85 = .ok (.invokevirtual 46, 3) := by decide +kernel
theorem dX0_ofWholes_88 : decode cX0_ofWholes 88 = .ok (.ireturn, 1) := by decide +kernel
theorem dX0_ofWholes_89 : decode cX0_ofWholes 89 = .ok (.iload_n 3, 1) := by decide +kernel
theorem dX0_ofWholes_90 : decode cX0_ofWholes 90 = .ok (.ifCond .ne 8, 3) := by decide +kernel
theorem dX0_ofWholes_93 : decode cX0_ofWholes 93 = .ok (.bipush (-3), 2) := by decide +kernel
theorem dX0_ofWholes_95 : decode cX0_ofWholes 95 = .ok (.goto 13, 3) := by decide +kernel
theorem dX0_ofWholes_98 : decode cX0_ofWholes 98 = .ok (.aload_n 0, 1) := by decide +kernel
theorem dX0_ofWholes_99 : decode cX0_ofWholes 99 = .ok (.iconst 1, 1) := by decide +kernel
theorem dX0_ofWholes_100 : decode cX0_ofWholes 100 = .ok (.iload_n 2, 1) := by decide +kernel
theorem dX0_ofWholes_101 : decode cX0_ofWholes 101 = .ok (.i2l, 1) := by decide +kernel
theorem dX0_ofWholes_102 : decode cX0_ofWholes 102 = .ok (.iload_n 3, 1) := by decide +kernel
theorem dX0_ofWholes_103 : decode cX0_ofWholes 103 = .ok (.i2l, 1) := by decide +kernel
theorem dX0_ofWholes_104 : decode cX0_ofWholes 104 = .ok (.ldiv, 1) := by decide +kernel
theorem dX0_ofWholes_105 : decode cX0_ofWholes 105 = .ok (.invokevirtual 46, 3) := by decide +kernel
theorem dX0_ofWholes_108 : decode cX0_ofWholes 108 = .ok (.ireturn, 1) := by decide +kernel
theorem dX0_ofWholes_109 : decode cX0_ofWholes 109 = .ok (.iload_n 3, 1) := by decide +kernel
theorem dX0_ofWholes_110 : decode cX0_ofWholes 110 = .ok (.ifCond .ne 8, 3) := by decide +kernel
theorem dX0_ofWholes_113 : decode cX0_ofWholes 113 = .ok (.bipush (-3), 2) := by decide +kernel
theorem dX0_ofWholes_115 : decode cX0_ofWholes 115 = .ok (.goto 13, 3) := by decide +kernel
theorem dX0_ofWholes_118 : decode cX0_ofWholes 118 = .ok (.aload_n 0, 1) := by decide +kernel
theorem dX0_ofWholes_119 : decode cX0_ofWholes 119 = .ok (.iconst 1, 1) := by decide +kernel
theorem dX0_ofWholes_120 : decode cX0_ofWholes 120 = .ok (.iload_n 2, 1) := by decide +kernel
theorem dX0_ofWholes_121 : decode cX0_ofWholes 121 = .ok (.i2l, 1) := by decide +kernel
theorem dX0_ofWholes_122 : decode cX0_ofWholes 122 = .ok (.iload_n 3, 1) := by decide +kernel
theorem dX0_ofWholes_123 : decode cX0_ofWholes 123 = .ok (.i2l, 1) := by decide +kernel
theorem dX0_ofWholes_124 : decode cX0_ofWholes 124 = .ok (.lrem, 1) := by decide +kernel
theorem dX0_ofWholes_125 : decode cX0_ofWholes 125 = .ok (.invokevirtual 46, 3) := by decide +kernel
theorem dX0_ofWholes_128 : decode cX0_ofWholes 128 = .ok (.ireturn, 1) := by decide +kernel
theorem dX0_ofWholes_129 : decode cX0_ofWholes 129 = .ok (.aload_n 0, 1) := by decide +kernel
theorem dX0_ofWholes_130 : decode cX0_ofWholes 130 = .ok (.iconst 1, 1) := by decide +kernel
theorem dX0_ofWholes_131 : decode cX0_ofWholes 131 = .ok (.iload_n 2, 1) := by decide +kernel
theorem dX0_ofWholes_132 : decode cX0_ofWholes 132 = .ok (.iload_n 3, 1) := by decide +kernel
theorem dX0_ofWholes_133 : decode cX0_ofWholes 133 = .ok (.iand, 1) := by decide +kernel
theorem dX0_ofWholes_134 : decode cX0_ofWholes 134 = .ok (.i2l, 1) := by decide +kernel
theorem dX0_ofWholes_135 : decode cX0_ofWholes 135 = .ok (.invokevirtual 46, 3) := by decide +kernel
theorem dX0_ofWholes_138 : decode cX0_ofWholes 138 = .ok (.ireturn, 1) := by decide +kernel
theorem dX0_ofWholes_139 : decode cX0_ofWholes 139 = .ok (.aload_n 0, 1) := by decide +kernel
theorem dX0_ofWholes_140 : decode cX0_ofWholes 140 = .ok (.iconst 1, 1) := by decide +kernel
theorem dX0_ofWholes_141 : decode cX0_ofWholes 141 = .ok (.iload_n 2, 1) := by decide +kernel
theorem dX0_ofWholes_142 : decode cX0_ofWholes 142 = .ok (.iload_n 3, 1) := by decide +kernel
theorem dX0_ofWholes_143 : decode cX0_ofWholes 143 = .ok (.ior, 1) := by decide +kernel
theorem dX0_ofWholes_144 : decode cX0_ofWholes 144 = .ok (.i2l, 1) := by decide +kernel
theorem dX0_ofWholes_145 : decode cX0_ofWholes 145 = .ok (.invokevirtual 46, 3) := by decide +kernel
theorem dX0_ofWholes_148 : decode cX0_ofWholes 148 = .ok (.ireturn, 1) := by decide +kernel
theorem dX0_ofWholes_149 : decode cX0_ofWholes 149 = .ok (.aload_n 0, 1) := by decide +kernel
theorem dX0_ofWholes_150 : decode cX0_ofWholes 150 = .ok (.iconst 1, 1) := by decide +kernel
theorem dX0_ofWholes_151 : decode cX0_ofWholes 151 = .ok (.iload_n 2, 1) := by decide +kernel
theorem dX0_ofWholes_152 : decode cX0_ofWholes 152 = .ok (.iload_n 3, 1) := by decide +kernel
theorem dX0_ofWholes_153 : decode cX0_ofWholes 153 = .ok (.ixor, 1) := by decide +kernel
theorem dX0_ofWholes_154 : decode cX0_ofWholes 154 = .ok (.i2l, 1) := by decide +kernel
theorem dX0_ofWholes_155 : decode cX0_ofWholes 155 = .ok (.invokevirtual 46, 3) := by decide +kernel
theorem dX0_ofWholes_158 : decode cX0_ofWholes 158 = .ok (.ireturn, 1) := by decide +kernel
theorem dX0_ofWholes_159 : decode cX0_ofWholes 159 = .ok (.aload_n 0, 1) := by decide +kernel
theorem dX0_ofWholes_160 : decode cX0_ofWholes 160 = .ok (.iconst 1, 1) := by decide +kernel
theorem dX0_ofWholes_161 : decode cX0_ofWholes 161 = .ok (.iload_n 2, 1) := by decide +kernel
theorem dX0_ofWholes_162 : decode cX0_ofWholes 162 = .ok (.iload_n 3, 1) := by decide +kernel
theorem dX0_ofWholes_163 : decode cX0_ofWholes 163 = .ok (.invokestatic 107, 3) := by decide +kernel
theorem dX0_ofWholes_166 : decode cX0_ofWholes 166 = .ok (.i2l, 1) := by decide +kernel
theorem dX0_ofWholes_167 : decode cX0_ofWholes 167 = .ok (.invokevirtual 46, 3) := by decide +kernel
theorem dX0_ofWholes_170 : decode cX0_ofWholes 170 = .ok (.ireturn, 1) := by decide +kernel
set_option maxRecDepth 20000 in
theorem ggX0_ofReals_X0_keep : GoodIn wsX0_ofReals wsX0_keep := goodIn_r _ [5, 6, 7, 8, 9, 4, 10, 11, 12, 55, 56, 57, 58, 59, 60, 61, 62, 63, 64] (by decide +kernel) (by decide +kernel)
set_option maxRecDepth 20000 in
theorem gX0_ofReals_X0_keep : GoodIn wsX0_ofReals (wsV RX0 46 RX0 yX0_keep wsX0_keep) := goodIn_app (goodIn_of _ (by decide +kernel)) ggX0_ofReals_X0_keep
set_option maxRecDepth 20000 in
theorem ggX0_ofReals_X0_withoutPlaces : GoodIn wsX0_ofReals wsX0_withoutPlaces := goodIn_r _ [15, 16] (by decide +kernel) (by decide +kernel)
set_option maxRecDepth 20000 in
theorem gX0_ofReals_X0_withoutPlaces : GoodIn wsX0_ofReals (va_wsS RX0 111 yX0_withoutPlaces wsX0_withoutPlaces) := goodIn_app (goodIn_of _ (by decide +kernel)) ggX0_ofReals_X0_withoutPlaces
set_option maxRecDepth 20000 in
theorem ggX0_ofReals_X0_quotient : GoodIn wsX0_ofReals wsX0_quotient := goodIn_r _ [19, 20, 21, 22, 23, 24, 16, 25, 26, 27, 28, 29, 30, 31, 32, 33] (by decide +kernel) (by decide +kernel)
set_option maxRecDepth 20000 in
theorem gX0_ofReals_X0_quotient : GoodIn wsX0_ofReals (va_wsS RX0 93 yX0_quotient wsX0_quotient) := goodIn_app (goodIn_of _ (by decide +kernel)) ggX0_ofReals_X0_quotient
set_option maxRecDepth 20000 in
theorem ggX0_ofReals_X0_angle : GoodIn wsX0_ofReals wsX0_angle := goodIn_r _ [36, 20, 21, 22, 23, 37, 38, 39, 40, 4, 41, 42, 43, 26, 44, 45, 46, 47, 48, 49, 50, 51, 52, 53, 54, 13, 14, 15, 16] (by decide +kernel) (by decide +kernel)
set_option maxRecDepth 20000 in
theorem gX0_ofReals_X0_angle : GoodIn wsX0_ofReals (va_wsS RX0 115 yX0_angle wsX0_angle) := goodIn_app (goodIn_of _ (by decide +kernel)) ggX0_ofReals_X0_angle
theorem dX0_ofReals_0 : decode cX0_ofReals 0 = .ok (.iload_n 1, 1) := by decide +kernel
theorem dX0_ofReals_1 : decode cX0_ofReals 1 = .ok (.tableswitch 88 0 3 #[31, 41, 51, 64], 31) := by decide +kernel
theorem dX0_ofReals_32 : decode cX0_ofReals 32 = .ok (.aload_n 0, 1) := by decide +kernel
theorem dX0_ofReals_33 : decode cX0_ofReals 33 = .ok (.iconst 2, 1) := by decide +kernel
theorem dX0_ofReals_34 : decode cX0_ofReals 34 = .ok (.lload_n 2, 1) := by decide +kernel
theorem dX0_ofReals_35 : decode cX0_ofReals 35 = .ok (.lload 4, 2) := by decide +kernel
theorem dX0_ofReals_37 : decode cX0_ofReals 37 = .ok (.ladd, 1) := by decide +kernel
theorem dX0_ofReals_38 : decode cX0_ofReals 38 = .ok (.invokevirtual 46, 3) := by decide +kernel
theorem dX0_ofReals_41 : decode cX0_ofReals 41 = .ok (.ireturn, 1) := by decide +kernel
theorem dX0_ofReals_42 : decode cX0_ofReals 42 = .ok (.aload_n 0, 1) := by decide +kernel
theorem dX0_ofReals_43 : decode cX0_ofReals 43 = .ok (.iconst 2, 1) := by decide +kernel
theorem dX0_ofReals_44 : decode cX0_ofReals 44 = .ok (.lload_n 2, 1) := by decide +kernel
theorem dX0_ofReals_45 : decode cX0_ofReals 45 = .ok (.lload 4, 2) := by decide +kernel
theorem dX0_ofReals_47 : decode cX0_ofReals 47 = .ok (.lsub, 1) := by decide +kernel
theorem dX0_ofReals_48 : decode cX0_ofReals 48 = .ok (.invokevirtual 46, 3) := by decide +kernel
theorem dX0_ofReals_51 : decode cX0_ofReals 51 = .ok (.ireturn, 1) := by decide +kernel
theorem dX0_ofReals_52 : decode cX0_ofReals 52 = .ok (.aload_n 0, 1) := by decide +kernel
theorem dX0_ofReals_53 : decode cX0_ofReals 53 = .ok (.iconst 2, 1) := by decide +kernel
theorem dX0_ofReals_54 : decode cX0_ofReals 54 = .ok (.lload_n 2, 1) := by decide +kernel
theorem dX0_ofReals_55 : decode cX0_ofReals 55 = .ok (.lload 4, 2) := by decide +kernel
theorem dX0_ofReals_57 : decode cX0_ofReals 57 = .ok (.lmul, 1) := by decide +kernel
theorem dX0_ofReals_58 : decode cX0_ofReals 58 = .ok (.invokestatic 111, 3) := by decide +kernel
theorem dX0_ofReals_61 : decode cX0_ofReals 61 = .ok (.invokevirtual 46, 3) := by decide +kernel
theorem dX0_ofReals_64 : decode cX0_ofReals 64 = .ok (.ireturn, 1) := by decide +kernel
theorem dX0_ofReals_65 : decode cX0_ofReals 65 = .ok (.lload 4, 2) := by decide +kernel
theorem dX0_ofReals_67 : decode cX0_ofReals 67 = .ok (.lconst 0, 1) := by decide +kernel
theorem dX0_ofReals_68 : decode cX0_ofReals 68 = .ok (.lcmp, 1) := by decide +kernel
theorem dX0_ofReals_69 : decode cX0_ofReals 69 = .ok (.ifCond .ne 8, 3) := by decide +kernel
theorem dX0_ofReals_72 : decode cX0_ofReals 72 = .ok (.bipush (-3), 2) := by decide +kernel
theorem dX0_ofReals_74 : decode cX0_ofReals 74 = .ok (.goto 14, 3) := by decide +kernel
theorem dX0_ofReals_77 : decode cX0_ofReals 77 = .ok (.aload_n 0, 1) := by decide +kernel
theorem dX0_ofReals_78 : decode cX0_ofReals 78 = .ok (.iconst 2, 1) := by decide +kernel
theorem dX0_ofReals_79 : decode cX0_ofReals 79 = .ok (.lload_n 2, 1) := by decide +kernel
theorem dX0_ofReals_80 : decode cX0_ofReals 80 = .ok (.lload 4, 2) := by decide +kernel
theorem dX0_ofReals_82 : decode cX0_ofReals 82 = .ok (.invokestatic 93, 3) := by decide +kernel
theorem dX0_ofReals_85 : decode cX0_ofReals 85 = .ok (.invokevirtual 46, 3) := by decide +kernel
theorem dX0_ofReals_88 : decode cX0_ofReals 88 = .ok (.ireturn, 1) := by decide +kernel
theorem dX0_ofReals_89 : decode cX0_ofReals 89 = .ok (.lload_n 2, 1) := by decide +kernel
theorem dX0_ofReals_90 : decode cX0_ofReals 90 = .ok (.lconst 0, 1) := by decide +kernel
theorem dX0_ofReals_91 : decode cX0_ofReals 91 = .ok (.lcmp, 1) := by decide +kernel
theorem dX0_ofReals_92 : decode cX0_ofReals 92 = .ok (.ifCond .ne 15, 3) := by decide +kernel
theorem dX0_ofReals_95 : decode cX0_ofReals 95 = .ok (.lload 4, 2) := by decide +kernel
theorem dX0_ofReals_97 : decode cX0_ofReals 97 = .ok (.lconst 0, 1) := by decide +kernel
theorem dX0_ofReals_98 : decode cX0_ofReals 98 = .ok (.lcmp, 1) := by decide +kernel
theorem dX0_ofReals_99 : decode cX0_ofReals 99 = .ok (.ifCond .ne 8, 3) := by decide +kernel
theorem dX0_ofReals_102 : decode cX0_ofReals 102 = .ok (.bipush (-3), 2) := by decide +kernel
theorem dX0_ofReals_104 : decode cX0_ofReals 104 = .ok (.goto 14, 3) := by decide +kernel
theorem dX0_ofReals_107 : decode cX0_ofReals 107 = .ok (.aload_n 0, 1) := by decide +kernel
theorem dX0_ofReals_108 : decode cX0_ofReals 108 = .ok (.iconst 2, 1) := by decide +kernel
theorem dX0_ofReals_109 : decode cX0_ofReals 109 = .ok (.lload 4, 2) := by decide +kernel
theorem dX0_ofReals_111 : decode cX0_ofReals 111 = .ok (.lload_n 2, 1) := by decide +kernel
theorem dX0_ofReals_112 : decode cX0_ofReals 112 = .ok (.invokestatic 115, 3) := by decide +kernel
theorem dX0_ofReals_115 : decode cX0_ofReals 115 = .ok (.invokevirtual 46, 3) := by decide +kernel
theorem dX0_ofReals_118 : decode cX0_ofReals 118 = .ok (.ireturn, 1) := by decide +kernel
set_option maxRecDepth 20000 in
theorem ggX0_ofOne_X0_keep : GoodIn wsX0_ofOne wsX0_keep := goodIn_r _ [10, 11, 12, 13, 14, 9, 15, 16, 17, 27, 28, 29, 30, 31, 32, 33, 34, 35, 36] (by decide +kernel) (by decide +kernel)
set_option maxRecDepth 20000 in
theorem gX0_ofOne_X0_keep : GoodIn wsX0_ofOne (wsV RX0 46 RX0 yX0_keep wsX0_keep) := goodIn_app (goodIn_of _ (by decide +kernel)) ggX0_ofOne_X0_keep
set_option maxRecDepth 20000 in
theorem ggX0_ofOne_X0_cut : GoodIn wsX0_ofOne wsX0_cut := goodIn_r _ [20, 21, 22, 23, 24, 25, 9, 26] (by decide +kernel) (by decide +kernel)
set_option maxRecDepth 20000 in
theorem gX0_ofOne_X0_cut : GoodIn wsX0_ofOne (va_wsS RX0 123 yX0_cut wsX0_cut) := goodIn_app (goodIn_of _ (by decide +kernel)) ggX0_ofOne_X0_cut
theorem dX0_ofOne_0 : decode cX0_ofOne 0 = .ok (.iload_n 1, 1) := by decide +kernel
theorem dX0_ofOne_1 : decode cX0_ofOne 1 = .ok (.lookupswitch 76 #[(0, 35), (1, 44), (9, 55)], 35) := by decide +kernel
theorem dX0_ofOne_36 : decode cX0_ofOne 36 = .ok (.aload_n 0, 1) := by decide +kernel
theorem dX0_ofOne_37 : decode cX0_ofOne 37 = .ok (.iload_n 2, 1) := by decide +kernel
theorem dX0_ofOne_38 : decode cX0_ofOne 38 = .ok (.iload_n 3, 1) := by decide +kernel
theorem dX0_ofOne_39 : decode cX0_ofOne 39 = .ok (.i2l, 1) := by decide +kernel
theorem dX0_ofOne_40 : decode cX0_ofOne 40 = .ok (.lneg, 1) := by decide +kernel
theorem dX0_ofOne_41 : decode cX0_ofOne 41 = .ok (.invokevirtual 46, 3) := by decide +kernel
theorem dX0_ofOne_44 : decode cX0_ofOne 44 = .ok (.ireturn, 1) := by decide +kernel
theorem dX0_ofOne_45 : decode cX0_ofOne 45 = .ok (.aload_n 0, 1) := by decide +kernel
theorem dX0_ofOne_46 : decode cX0_ofOne 46 = .ok (.iload_n 2, 1) := by decide +kernel
theorem dX0_ofOne_47 : decode cX0_ofOne 47 = .ok (.iload_n 3, 1) := by decide +kernel
theorem dX0_ofOne_48 : decode cX0_ofOne 48 = .ok (.i2l, 1) := by decide +kernel
theorem dX0_ofOne_49 : decode cX0_ofOne 49 = .ok (.invokestatic 118, 3) := by decide +kernel
theorem dX0_ofOne_52 : decode cX0_ofOne 52 = .ok (.invokevirtual 46, 3) := by decide +kernel
theorem dX0_ofOne_55 : decode cX0_ofOne 55 = .ok (.ireturn, 1) := by decide +kernel
theorem dX0_ofOne_56 : decode cX0_ofOne 56 = .ok (.aload_n 0, 1) := by decide +kernel
theorem dX0_ofOne_57 : decode cX0_ofOne 57 = .ok (.iconst 1, 1) := by decide +kernel
theorem dX0_ofOne_58 : decode cX0_ofOne 58 = .ok (.iload_n 2, 1) := by decide +kernel
theorem dX0_ofOne_59 : decode cX0_ofOne 59 = .ok (.iconst 1, 1) := by decide +kernel
theorem dX0_ofOne_60 : decode cX0_ofOne 60 = .ok (.if_icmp .ne 8, 3) := by decide +kernel
theorem dX0_ofOne_63 : decode cX0_ofOne 63 = .ok (.iload_n 3, 1) := by decide +kernel
theorem dX0_ofOne_64 : decode cX0_ofOne 64 = .ok (.i2l, 1) := by decide +kernel
theorem dX0_ofOne_65 : decode cX0_ofOne 65 = .ok (.goto 8, 3) := by decide +kernel
theorem dX0_ofOne_68 : decode cX0_ofOne 68 = .ok (.iload_n 3, 1) := by decide +kernel
theorem dX0_ofOne_69 : decode cX0_ofOne 69 = .ok (.ldc 15, 2) := by decide +kernel
theorem dX0_ofOne_71 : decode cX0_ofOne 71 = .ok (.idiv, 1) := by decide +kernel
theorem dX0_ofOne_72 : decode cX0_ofOne 72 = .ok (.i2l, 1) := by decide +kernel
theorem dX0_ofOne_73 : decode cX0_ofOne 73 = .ok (.invokevirtual 46, 3) := by decide +kernel
theorem dX0_ofOne_76 : decode cX0_ofOne 76 = .ok (.ireturn, 1) := by decide +kernel
theorem dX0_ofOne_77 : decode cX0_ofOne 77 = .ok (.aload_n 0, 1) := by decide +kernel
theorem dX0_ofOne_78 : decode cX0_ofOne 78 = .ok (.iload_n 2, 1) := by decide +kernel
theorem dX0_ofOne_79 : decode cX0_ofOne 79 = .ok (.iload_n 2, 1) := by decide +kernel
theorem dX0_ofOne_80 : decode cX0_ofOne 80 = .ok (.iconst 1, 1) := by decide +kernel
theorem dX0_ofOne_81 : decode cX0_ofOne 81 = .ok (.if_icmp .ne 8, 3) := by decide +kernel
theorem dX0_ofOne_84 : decode cX0_ofOne 84 = .ok (.iload_n 3, 1) := by decide +kernel
theorem dX0_ofOne_85 : decode cX0_ofOne 85 = .ok (.i2l, 1) := by decide +kernel
theorem dX0_ofOne_86 : decode cX0_ofOne 86 = .ok (.goto 9, 3) := by decide +kernel
theorem dX0_ofOne_89 : decode cX0_ofOne 89 = .ok (.iload_n 1, 1) := by decide +kernel
theorem dX0_ofOne_90 : decode cX0_ofOne 90 = .ok (.iload_n 3, 1) := by decide +kernel
theorem dX0_ofOne_91 : decode cX0_ofOne 91 = .ok (.i2l, 1) := by decide +kernel
theorem dX0_ofOne_92 : decode cX0_ofOne 92 = .ok (.invokestatic 123, 3) := by decide +kernel
theorem dX0_ofOne_95 : decode cX0_ofOne 95 = .ok (.invokevirtual 46, 3) := by decide +kernel
theorem dX0_ofOne_98 : decode cX0_ofOne 98 = .ok (.ireturn, 1) := by decide +kernel
set_option maxRecDepth 20000 in
theorem ggX0_ofReal_X0_root : GoodIn wsX0_ofReal wsX0_root := goodIn_r _ [5, 6] (by decide +kernel) (by decide +kernel)
set_option maxRecDepth 20000 in
theorem gX0_ofReal_X0_root : GoodIn wsX0_ofReal (va_wsS RX0 127 yX0_root wsX0_root) := goodIn_app (goodIn_of _ (by decide +kernel)) ggX0_ofReal_X0_root
set_option maxRecDepth 20000 in
theorem ggX0_ofReal_X0_keep : GoodIn wsX0_ofReal wsX0_keep := goodIn_r _ [10, 11, 12, 13, 14, 4, 15, 16, 17, 39, 40, 41, 42, 43, 44, 45, 46, 47, 48] (by decide +kernel) (by decide +kernel)
set_option maxRecDepth 20000 in
theorem gX0_ofReal_X0_keep : GoodIn wsX0_ofReal (wsV RX0 46 RX0 yX0_keep wsX0_keep) := goodIn_app (goodIn_of _ (by decide +kernel)) ggX0_ofReal_X0_keep
set_option maxRecDepth 20000 in
theorem ggX0_ofReal_X0_sine : GoodIn wsX0_ofReal wsX0_sine := goodIn_r _ [20, 21, 22, 23, 24, 25, 26, 27, 28, 29, 30, 31, 32, 4, 33, 1, 6, 34, 35, 36, 37, 38] (by decide +kernel) (by decide +kernel)
set_option maxRecDepth 20000 in
theorem gX0_ofReal_X0_sine : GoodIn wsX0_ofReal (va_wsS RX0 130 yX0_sine wsX0_sine) := goodIn_app (goodIn_of _ (by decide +kernel)) ggX0_ofReal_X0_sine
theorem dX0_ofReal_0 : decode cX0_ofReal 0 = .ok (.iload_n 1, 1) := by decide +kernel
theorem dX0_ofReal_1 : decode cX0_ofReal 1 = .ok (.tableswitch 72 6 8 #[27, 48, 58], 27) := by decide +kernel
theorem dX0_ofReal_28 : decode cX0_ofReal 28 = .ok (.lload_n 2, 1) := by decide +kernel
theorem dX0_ofReal_29 : decode cX0_ofReal 29 = .ok (.lconst 0, 1) := by decide +kernel
theorem dX0_ofReal_30 : decode cX0_ofReal 30 = .ok (.lcmp, 1) := by decide +kernel
theorem dX0_ofReal_31 : decode cX0_ofReal 31 = .ok (.ifCond .ge 8, 3) := by decide +kernel
theorem dX0_ofReal_34 : decode cX0_ofReal 34 = .ok (.bipush (-3), 2) := by decide +kernel
theorem dX0_ofReal_36 : decode cX0_ofReal 36 = .ok (.goto 12, 3) := by decide +kernel
theorem dX0_ofReal_39 : decode cX0_ofReal 39 = .ok (.aload_n 0, 1) := by decide +kernel
theorem dX0_ofReal_40 : decode cX0_ofReal 40 = .ok (.iconst 2, 1) := by decide +kernel
theorem dX0_ofReal_41 : decode cX0_ofReal 41 = .ok (.lload_n 2, 1) := by decide +kernel
theorem dX0_ofReal_42 : decode cX0_ofReal 42 = .ok (.invokestatic 127, 3) := by decide +kernel
theorem dX0_ofReal_45 : decode cX0_ofReal 45 = .ok (.invokevirtual 46, 3) := by decide +kernel
theorem dX0_ofReal_48 : decode cX0_ofReal 48 = .ok (.ireturn, 1) := by decide +kernel
theorem dX0_ofReal_49 : decode cX0_ofReal 49 = .ok (.aload_n 0, 1) := by decide +kernel
theorem dX0_ofReal_50 : decode cX0_ofReal 50 = .ok (.iconst 2, 1) := by decide +kernel
theorem dX0_ofReal_51 : decode cX0_ofReal 51 = .ok (.lload_n 2, 1) := by decide +kernel
theorem dX0_ofReal_52 : decode cX0_ofReal 52 = .ok (.invokestatic 130, 3) := by decide +kernel
theorem dX0_ofReal_55 : decode cX0_ofReal 55 = .ok (.invokevirtual 46, 3) := by decide +kernel
theorem dX0_ofReal_58 : decode cX0_ofReal 58 = .ok (.ireturn, 1) := by decide +kernel
theorem dX0_ofReal_59 : decode cX0_ofReal 59 = .ok (.aload_n 0, 1) := by decide +kernel
theorem dX0_ofReal_60 : decode cX0_ofReal 60 = .ok (.iconst 2, 1) := by decide +kernel
theorem dX0_ofReal_61 : decode cX0_ofReal 61 = .ok (.lload_n 2, 1) := by decide +kernel
theorem dX0_ofReal_62 : decode cX0_ofReal 62 = .ok (.ldc2_w 133, 3) := by decide +kernel
theorem dX0_ofReal_65 : decode cX0_ofReal 65 = .ok (.ladd, 1) := by decide +kernel
theorem dX0_ofReal_66 : decode cX0_ofReal 66 = .ok (.invokestatic 130, 3) := by decide +kernel
theorem dX0_ofReal_69 : decode cX0_ofReal 69 = .ok (.invokevirtual 46, 3) := by decide +kernel
theorem dX0_ofReal_72 : decode cX0_ofReal 72 = .ok (.ireturn, 1) := by decide +kernel
theorem dX0_ofReal_73 : decode cX0_ofReal 73 = .ok (.aload_n 0, 1) := by decide +kernel
theorem dX0_ofReal_74 : decode cX0_ofReal 74 = .ok (.iconst 2, 1) := by decide +kernel
theorem dX0_ofReal_75 : decode cX0_ofReal 75 = .ok (.lload_n 2, 1) := by decide +kernel
theorem dX0_ofReal_76 : decode cX0_ofReal 76 = .ok (.invokevirtual 46, 3) := by decide +kernel
theorem dX0_ofReal_79 : decode cX0_ofReal 79 = .ok (.ireturn, 1) := by decide +kernel
set_option maxRecDepth 20000 in
theorem ggX0_keep_X0_isReal : GoodIn wsX0_keep wsX0_isReal := goodIn_r _ [6, 7, 8] (by decide +kernel) (by decide +kernel)
set_option maxRecDepth 20000 in
theorem gX0_keep_X0_isReal : GoodIn wsX0_keep (va_wsS RX0 38 yX0_isReal wsX0_isReal) := goodIn_app (goodIn_of _ (by decide +kernel)) ggX0_keep_X0_isReal
theorem dX0_keep_0 : decode cX0_keep 0 = .ok (.iload_n 1, 1) := by decide +kernel
theorem dX0_keep_1 : decode cX0_keep 1 = .ok (.iconst 1, 1) := by decide +kernel
theorem dX0_keep_2 : decode cX0_keep 2 = .ok (.if_icmp .ne 19, 3) := by decide +kernel
theorem dX0_keep_5 : decode cX0_keep 5 = .ok (.lload_n 2, 1) := by decide +kernel
theorem dX0_keep_6 : decode cX0_keep 6 = .ok (.lload_n 2, 1) := by decide +kernel
theorem dX0_keep_7 : decode cX0_keep 7 = .ok (.l2i, 1) := by decide +kernel
theorem dX0_keep_8 : decode cX0_keep 8 = .ok (.i2l, 1) := by decide +kernel
theorem dX0_keep_9 : decode cX0_keep 9 = .ok (.lcmp, 1) := by decide +kernel
theorem dX0_keep_10 : decode cX0_keep 10 = .ok (.ifCond .ne 7, 3) := by decide +kernel
theorem dX0_keep_13 : decode cX0_keep 13 = .ok (.iconst 1, 1) := by decide +kernel
theorem dX0_keep_14 : decode cX0_keep 14 = .ok (.goto 11, 3) := by decide +kernel
theorem dX0_keep_17 : decode cX0_keep 17 = .ok (.iconst 0, 1) := by decide +kernel
theorem dX0_keep_18 : decode cX0_keep 18 = .ok (.goto 7, 3) := by decide +kernel
theorem dX0_keep_21 : decode cX0_keep 21 = .ok (.lload_n 2, 1) := by decide +kernel
theorem dX0_keep_22 : decode cX0_keep 22 = .ok (.invokestatic 38, 3) := by decide +kernel
theorem dX0_keep_25 : decode cX0_keep 25 = .ok (.istore 4, 2) := by decide +kernel
theorem dX0_keep_27 : decode cX0_keep 27 = .ok (.iload 4, 2) := by decide +kernel
theorem dX0_keep_29 : decode cX0_keep 29 = .ok (.ifCond .ne 6, 3) := by decide +kernel
theorem dX0_keep_32 : decode cX0_keep 32 = .ok (.bipush (-2), 2) := by decide +kernel
theorem dX0_keep_34 : decode cX0_keep 34 = .ok (.ireturn, 1) := by decide +kernel
theorem dX0_keep_35 : decode cX0_keep 35 = .ok (.aload_n 0, 1) := by decide +kernel
theorem dX0_keep_36 : decode cX0_keep 36 = .ok (.iload_n 1, 1) := by decide +kernel
theorem dX0_keep_37 : decode cX0_keep 37 = .ok (.putfield 11, 3) := by decide +kernel
theorem dX0_keep_40 : decode cX0_keep 40 = .ok (.aload_n 0, 1) := by decide +kernel
theorem dX0_keep_41 : decode cX0_keep 41 = .ok (.lload_n 2, 1) := by decide +kernel
theorem dX0_keep_42 : decode cX0_keep 42 = .ok (.l2i, 1) := by decide +kernel
theorem dX0_keep_43 : decode cX0_keep 43 = .ok (.putfield 59, 3) := by decide +kernel
theorem dX0_keep_46 : decode cX0_keep 46 = .ok (.iload_n 1, 1) := by decide +kernel
theorem dX0_keep_47 : decode cX0_keep 47 = .ok (.ireturn, 1) := by decide +kernel
set_option maxRecDepth 20000 in
theorem ggX0_keepMatrix_X0_areReals : GoodIn wsX0_keepMatrix wsX0_areReals := goodIn_r _ [10, 11, 12, 9, 13, 14, 15] (by decide +kernel) (by decide +kernel)
set_option maxRecDepth 20000 in
theorem gX0_keepMatrix_X0_areReals : GoodIn wsX0_keepMatrix (va_wsS RX0 78 yX0_areReals wsX0_areReals) := goodIn_app (goodIn_of _ (by decide +kernel)) ggX0_keepMatrix_X0_areReals
theorem dX0_keepMatrix_0 : decode cX0_keepMatrix 0 = .ok (.lload_n 1, 1) := by decide +kernel
theorem dX0_keepMatrix_1 : decode cX0_keepMatrix 1 = .ok (.lload_n 3, 1) := by decide +kernel
theorem dX0_keepMatrix_2 : decode cX0_keepMatrix 2 = .ok (.lload 5, 2) := by decide +kernel
theorem dX0_keepMatrix_4 : decode cX0_keepMatrix 4 = .ok (.lload 7, 2) := by decide +kernel
theorem dX0_keepMatrix_6 : decode cX0_keepMatrix 6 = .ok (.lload 9, 2) := by decide +kernel
theorem dX0_keepMatrix_8 : decode cX0_keepMatrix 8 = .ok (.lload 11, 2) := by decide +kernel
theorem dX0_keepMatrix_10 : decode cX0_keepMatrix 10 = .ok (.invokestatic 78, 3) := by decide +kernel
theorem dX0_keepMatrix_13 : decode cX0_keepMatrix 13 = .ok (.ifCond .ne 5, 3) := by decide +kernel
theorem dX0_keepMatrix_16 : decode cX0_keepMatrix 16 = .ok (.iconst 0, 1) := by decide +kernel
theorem dX0_keepMatrix_17 : decode cX0_keepMatrix 17 = .ok (.ireturn, 1) := by decide +kernel
theorem dX0_keepMatrix_18 : decode cX0_keepMatrix 18 = .ok (.aload_n 0, 1) := by decide +kernel
theorem dX0_keepMatrix_19 : decode cX0_keepMatrix 19 = .ok (.lload_n 1, 1) := by decide +kernel
theorem dX0_keepMatrix_20 : decode cX0_keepMatrix 20 = .ok (.l2i, 1) := by decide +kernel
theorem dX0_keepMatrix_21 : decode cX0_keepMatrix 21 = .ok (.putfield 16, 3) := by decide +kernel
theorem dX0_keepMatrix_24 : decode cX0_keepMatrix 24 = .ok (.aload_n 0, 1) := by decide +kernel
theorem dX0_keepMatrix_25 : decode cX0_keepMatrix 25 = .ok (.lload_n 3, 1) := by decide +kernel
theorem dX0_keepMatrix_26 : decode cX0_keepMatrix 26 = .ok (.l2i, 1) := by decide +kernel
theorem dX0_keepMatrix_27 : decode cX0_keepMatrix 27 = .ok (.putfield 66, 3) := by decide +kernel
theorem dX0_keepMatrix_30 : decode cX0_keepMatrix 30 = .ok (.aload_n 0, 1) := by decide +kernel
theorem dX0_keepMatrix_31 : decode cX0_keepMatrix 31 = .ok (.lload 5, 2) := by decide +kernel
theorem dX0_keepMatrix_33 : decode cX0_keepMatrix 33 = .ok (.l2i, 1) := by decide +kernel
theorem dX0_keepMatrix_34 : decode cX0_keepMatrix 34 = .ok (.putfield 69, 3) := by decide +kernel
theorem dX0_keepMatrix_37 : decode cX0_keepMatrix 37 = .ok (.aload_n 0, 1) := by decide +kernel
theorem dX0_keepMatrix_38 : decode cX0_keepMatrix 38 = .ok (.lload 7, 2) := by decide +kernel
theorem dX0_keepMatrix_40 : decode cX0_keepMatrix 40 = .ok (.l2i, 1) := by decide +kernel
theorem dX0_keepMatrix_41 : decode cX0_keepMatrix 41 = .ok (.putfield 19, 3) := by decide +kernel
theorem dX0_keepMatrix_44 : decode cX0_keepMatrix 44 = .ok (.aload_n 0, 1) := by decide +kernel
theorem dX0_keepMatrix_45 : decode cX0_keepMatrix 45 = .ok (.lload 9, 2) := by decide +kernel
theorem dX0_keepMatrix_47 : decode cX0_keepMatrix 47 = .ok (.l2i, 1) := by decide +kernel
theorem dX0_keepMatrix_48 : decode cX0_keepMatrix 48 = .ok (.putfield 72, 3) := by decide +kernel
theorem dX0_keepMatrix_51 : decode cX0_keepMatrix 51 = .ok (.aload_n 0, 1) := by decide +kernel
theorem dX0_keepMatrix_52 : decode cX0_keepMatrix 52 = .ok (.lload 11, 2) := by decide +kernel
theorem dX0_keepMatrix_54 : decode cX0_keepMatrix 54 = .ok (.l2i, 1) := by decide +kernel
theorem dX0_keepMatrix_55 : decode cX0_keepMatrix 55 = .ok (.putfield 75, 3) := by decide +kernel
theorem dX0_keepMatrix_58 : decode cX0_keepMatrix 58 = .ok (.iconst 1, 1) := by decide +kernel
theorem dX0_keepMatrix_59 : decode cX0_keepMatrix 59 = .ok (.ireturn, 1) := by decide +kernel
theorem dX0_shifted_0 : decode cX0_shifted 0 = .ok (.iload_n 1, 1) := by decide +kernel
theorem dX0_shifted_1 : decode cX0_shifted 1 = .ok (.bipush (-32), 2) := by decide +kernel
theorem dX0_shifted_3 : decode cX0_shifted 3 = .ok (.if_icmp .le 9, 3) := by decide +kernel
theorem dX0_shifted_6 : decode cX0_shifted 6 = .ok (.iload_n 1, 1) := by decide +kernel
theorem dX0_shifted_7 : decode cX0_shifted 7 = .ok (.bipush 32, 2) := by decide +kernel
theorem dX0_shifted_9 : decode cX0_shifted 9 = .ok (.if_icmp .lt 5, 3) := by decide +kernel
theorem dX0_shifted_12 : decode cX0_shifted 12 = .ok (.iconst 0, 1) := by decide +kernel
theorem dX0_shifted_13 : decode cX0_shifted 13 = .ok (.ireturn, 1) := by decide +kernel
theorem dX0_shifted_14 : decode cX0_shifted 14 = .ok (.iload_n 1, 1) := by decide +kernel
theorem dX0_shifted_15 : decode cX0_shifted 15 = .ok (.ifCond .lt 9, 3) := by decide +kernel
theorem dX0_shifted_18 : decode cX0_shifted 18 = .ok (.iload_n 0, 1) := by decide +kernel
theorem dX0_shifted_19 : decode cX0_shifted 19 = .ok (.iload_n 1, 1) := by decide +kernel
theorem dX0_shifted_20 : decode cX0_shifted 20 = .ok (.ishl, 1) := by decide +kernel
theorem dX0_shifted_21 : decode cX0_shifted 21 = .ok (.goto 7, 3) := by decide +kernel
theorem dX0_shifted_24 : decode cX0_shifted 24 = .ok (.iload_n 0, 1) := by decide +kernel
theorem dX0_shifted_25 : decode cX0_shifted 25 = .ok (.iload_n 1, 1) := by decide +kernel
theorem dX0_shifted_26 : decode cX0_shifted 26 = .ok (.ineg, 1) := by decide +kernel
theorem dX0_shifted_27 : decode cX0_shifted 27 = .ok (.iushr, 1) := by decide +kernel
theorem dX0_shifted_28 : decode cX0_shifted 28 = .ok (.ireturn, 1) := by decide +kernel
set_option maxRecDepth 20000 in
theorem ggX0_cut_X0_floor : GoodIn wsX0_cut wsX0_floor := goodIn_r _ [7] (by decide +kernel) (by decide +kernel)
set_option maxRecDepth 20000 in
theorem gX0_cut_X0_floor : GoodIn wsX0_cut (va_wsS RX0 137 yX0_floor wsX0_floor) := goodIn_app (goodIn_of _ (by decide +kernel)) ggX0_cut_X0_floor
theorem dX0_cut_0 : decode cX0_cut 0 = .ok (.iload_n 0, 1) := by decide +kernel
theorem dX0_cut_1 : decode cX0_cut 1 = .ok (.tableswitch 50 2 4 #[27, 36, 41], 27) := by decide +kernel
theorem dX0_cut_28 : decode cX0_cut 28 = .ok (.lload_n 1, 1) := by decide +kernel
theorem dX0_cut_29 : decode cX0_cut 29 = .ok (.ldc2_w 135, 3) := by decide +kernel
theorem dX0_cut_32 : decode cX0_cut 32 = .ok (.ladd, 1) := by decide +kernel
theorem dX0_cut_33 : decode cX0_cut 33 = .ok (.invokestatic 137, 3) := by decide +kernel
theorem dX0_cut_36 : decode cX0_cut 36 = .ok (.lreturn, 1) := by decide +kernel
theorem dX0_cut_37 : decode cX0_cut 37 = .ok (.lload_n 1, 1) := by decide +kernel
theorem dX0_cut_38 : decode cX0_cut 38 = .ok (.invokestatic 137, 3) := by decide +kernel
theorem dX0_cut_41 : decode cX0_cut 41 = .ok (.lreturn, 1) := by decide +kernel
theorem dX0_cut_42 : decode cX0_cut 42 = .ok (.lload_n 1, 1) := by decide +kernel
theorem dX0_cut_43 : decode cX0_cut 43 = .ok (.ldc2_w 140, 3) := by decide +kernel
theorem dX0_cut_46 : decode cX0_cut 46 = .ok (.ladd, 1) := by decide +kernel
theorem dX0_cut_47 : decode cX0_cut 47 = .ok (.invokestatic 137, 3) := by decide +kernel
theorem dX0_cut_50 : decode cX0_cut 50 = .ok (.lreturn, 1) := by decide +kernel
theorem dX0_cut_51 : decode cX0_cut 51 = .ok (.lload_n 1, 1) := by decide +kernel
theorem dX0_cut_52 : decode cX0_cut 52 = .ok (.ldc2_w 91, 3) := by decide +kernel
theorem dX0_cut_55 : decode cX0_cut 55 = .ok (.ldiv, 1) := by decide +kernel
theorem dX0_cut_56 : decode cX0_cut 56 = .ok (.ldc2_w 91, 3) := by decide +kernel
theorem dX0_cut_59 : decode cX0_cut 59 = .ok (.lmul, 1) := by decide +kernel
theorem dX0_cut_60 : decode cX0_cut 60 = .ok (.lreturn, 1) := by decide +kernel
theorem dX0_floor_0 : decode cX0_floor 0 = .ok (.lload_n 0, 1) := by decide +kernel
theorem dX0_floor_1 : decode cX0_floor 1 = .ok (.bipush 16, 2) := by decide +kernel
theorem dX0_floor_3 : decode cX0_floor 3 = .ok (.lshr, 1) := by decide +kernel
theorem dX0_floor_4 : decode cX0_floor 4 = .ok (.bipush 16, 2) := by decide +kernel
theorem dX0_floor_6 : decode cX0_floor 6 = .ok (.lshl, 1) := by decide +kernel
theorem dX0_floor_7 : decode cX0_floor 7 = .ok (.lreturn, 1) := by decide +kernel
theorem dX0_withoutPlaces_0 : decode cX0_withoutPlaces 0 = .ok (.lload_n 0, 1) := by decide +kernel
theorem dX0_withoutPlaces_1 : decode cX0_withoutPlaces 1 = .ok (.ldc2_w 140, 3) := by decide +kernel
theorem dX0_withoutPlaces_4 : decode cX0_withoutPlaces 4 = .ok (.ladd, 1) := by decide +kernel
theorem dX0_withoutPlaces_5 : decode cX0_withoutPlaces 5 = .ok (.bipush 16, 2) := by decide +kernel
theorem dX0_withoutPlaces_7 : decode cX0_withoutPlaces 7 = .ok (.lshr, 1) := by decide +kernel
theorem dX0_withoutPlaces_8 : decode cX0_withoutPlaces 8 = .ok (.lreturn, 1) := by decide +kernel
set_option maxRecDepth 20000 in
theorem ggX0_quotient_J9_floorDiv_f86c9 : GoodIn wsX0_quotient wsJ9_floorDiv_f86c9 := goodIn_r _ [12] (by decide +kernel) (by decide +kernel)
set_option maxRecDepth 20000 in
theorem gX0_quotient_J9_floorDiv_f86c9 : GoodIn wsX0_quotient (va_wsS RX0 142 yJ9_floorDiv_f86c9 wsJ9_floorDiv_f86c9) := goodIn_app (goodIn_of _ (by decide +kernel)) ggX0_quotient_J9_floorDiv_f86c9
set_option maxRecDepth 20000 in
theorem ggX0_quotient_J9_floorMod_f86c9 : GoodIn wsX0_quotient wsJ9_floorMod_f86c9 := goodIn_r _ [15] (by decide +kernel) (by decide +kernel)
set_option maxRecDepth 20000 in
theorem gX0_quotient_J9_floorMod_f86c9 : GoodIn wsX0_quotient (va_wsS RX0 149 yJ9_floorMod_f86c9 wsJ9_floorMod_f86c9) := goodIn_app (goodIn_of _ (by decide +kernel)) ggX0_quotient_J9_floorMod_f86c9
theorem dX0_quotient_0 : decode cX0_quotient 0 = .ok (.lload_n 2, 1) := by decide +kernel
theorem dX0_quotient_1 : decode cX0_quotient 1 = .ok (.invokestatic 118, 3) := by decide +kernel
theorem dX0_quotient_4 : decode cX0_quotient 4 = .ok (.lstore 4, 2) := by decide +kernel
theorem dX0_quotient_6 : decode cX0_quotient 6 = .ok (.lload_n 2, 1) := by decide +kernel
theorem dX0_quotient_7 : decode cX0_quotient 7 = .ok (.lconst 0, 1) := by decide +kernel
theorem dX0_quotient_8 : decode cX0_quotient 8 = .ok (.lcmp, 1) := by decide +kernel
theorem dX0_quotient_9 : decode cX0_quotient 9 = .ok (.ifCond .ge 8, 3) := by decide +kernel
theorem dX0_quotient_12 : decode cX0_quotient 12 = .ok (.lload_n 0, 1) := by decide +kernel
theorem dX0_quotient_13 : decode cX0_quotient 13 = .ok (.lneg, 1) := by decide +kernel
theorem dX0_quotient_14 : decode cX0_quotient 14 = .ok (.goto 4, 3) := by decide +kernel
theorem dX0_quotient_17 : decode cX0_quotient 17 = .ok (.lload_n 0, 1) := by decide +kernel
theorem dX0_quotient_18 : decode cX0_quotient 18 = .ok (.lstore 6, 2) := by decide +kernel
theorem dX0_quotient_20 : decode cX0_quotient 20 = .ok (.lload 6, 2) := by decide +kernel
theorem dX0_quotient_22 : decode cX0_quotient 22 = .ok (.lload 4, 2) := by decide +kernel
theorem dX0_quotient_24 : decode cX0_quotient 24 = .ok (.invokestatic 142, 3) := by decide +kernel
theorem dX0_quotient_27 : decode cX0_quotient 27 = .ok (.lstore 8, 2) := by decide +kernel
theorem dX0_quotient_29 : decode cX0_quotient 29 = .ok (.lload 8, 2) := by decide +kernel
theorem dX0_quotient_31 : decode cX0_quotient 31 = .ok (.ldc2_w 145, 3) := by decide +kernel
theorem dX0_quotient_34 : decode cX0_quotient 34 = .ok (.lcmp, 1) := by decide +kernel
theorem dX0_quotient_35 : decode cX0_quotient 35 = .ok (.ifCond .lt 12, 3) := by decide +kernel
theorem dX0_quotient_38 : decode cX0_quotient 38 = .ok (.lload 8, 2) := by decide +kernel
theorem dX0_quotient_40 : decode cX0_quotient 40 = .ok (.ldc2_w 140, 3) := by decide +kernel
theorem dX0_quotient_43 : decode cX0_quotient 43 = .ok (.lcmp, 1) := by decide +kernel
theorem dX0_quotient_44 : decode cX0_quotient 44 = .ok (.ifCond .lt 7, 3) := by decide +kernel
theorem dX0_quotient_47 : decode cX0_quotient 47 = .ok (.ldc2_w 147, 3) := by decide +kernel
theorem dX0_quotient_50 : decode cX0_quotient 50 = .ok (.lreturn, 1) := by decide +kernel
theorem dX0_quotient_51 : decode cX0_quotient 51 = .ok (.lload 6, 2) := by decide +kernel
theorem dX0_quotient_53 : decode cX0_quotient 53 = .ok (.lload 4, 2) := by decide +kernel
theorem dX0_quotient_55 : decode cX0_quotient 55 = .ok (.invokestatic 149, 3) := by decide +kernel
theorem dX0_quotient_58 : decode cX0_quotient 58 = .ok (.lstore 10, 2) := by decide +kernel
theorem dX0_quotient_60 : decode cX0_quotient 60 = .ok (.iconst 0, 1) := by decide +kernel
theorem dX0_quotient_61 : decode cX0_quotient 61 = .ok (.istore 12, 2) := by decide +kernel
theorem dX0_quotient_63 : decode cX0_quotient 63 = .ok (.iload 12, 2) := by decide +kernel
theorem dX0_quotient_65 : decode cX0_quotient 65 = .ok (.bipush 16, 2) := by decide +kernel
theorem dX0_quotient_67 : decode cX0_quotient 67 = .ok (.if_icmp .ge 71, 3) := by decide +kernel
theorem dX0_quotient_70 : decode cX0_quotient 70 = .ok (.lload 4, 2) := by decide +kernel
theorem dX0_quotient_72 : decode cX0_quotient 72 = .ok (.lload 10, 2) := by decide +kernel
theorem dX0_quotient_74 : decode cX0_quotient 74 = .ok (.lsub, 1) := by decide +kernel
theorem dX0_quotient_75 : decode cX0_quotient 75 = .ok (.lstore 13, 2) := by decide +kernel
theorem dX0_quotient_77 : decode cX0_quotient 77 = .ok (.lload 10, 2) := by decide +kernel
theorem dX0_quotient_79 : decode cX0_quotient 79 = .ok (.lload 13, 2) := by decide +kernel
theorem dX0_quotient_81 : decode cX0_quotient 81 = .ok (.lcmp, 1) := by decide +kernel
theorem dX0_quotient_82 : decode cX0_quotient 82 = .ok (.ifCond .lt 7, 3) := by decide +kernel
theorem dX0_quotient_85 : decode cX0_quotient 85 = .ok (.iconst 1, 1) := by decide +kernel
theorem dX0_quotient_86 : decode cX0_quotient 86 = .ok (.goto 4, 3) := by decide +kernel
theorem dX0_quotient_89 : decode cX0_quotient 89 = .ok (.iconst 0, 1) := by decide +kernel
theorem dX0_quotient_90 : decode cX0_quotient 90 = .ok (.istore 15, 2) := by decide +kernel
theorem dX0_quotient_92 : decode cX0_quotient 92 = .ok (.ldc2_w 152, 3) := by decide +kernel
theorem dX0_quotient_95 : decode cX0_quotient 95 = .ok (.lload 8, 2) := by decide +kernel
theorem dX0_quotient_97 : decode cX0_quotient 97 = .ok (.lmul, 1) := by decide +kernel
theorem dX0_quotient_98 : decode cX0_quotient 98 = .ok (.iload 15, 2) := by decide +kernel
theorem dX0_quotient_100 : decode cX0_quotient 100 = .ok (.ifCond .eq 7, 3) := by decide +kernel
theorem dX0_quotient_103 : decode cX0_quotient 103 = .ok (.iconst 1, 1) := by decide +kernel
theorem dX0_quotient_104 : decode cX0_quotient 104 = .ok (.goto 4, 3) := by decide +kernel
theorem dX0_quotient_107 : decode cX0_quotient 107 = .ok (.iconst 0, 1) := by decide +kernel
theorem dX0_quotient_108 : decode cX0_quotient 108 = .ok (.i2l, 1) := by decide +kernel
theorem dX0_quotient_109 : decode cX0_quotient 109 = .ok (.ladd, 1) := by decide +kernel
theorem dX0_quotient_110 : decode cX0_quotient 110 = .ok (.lstore 8, 2) := by decide +kernel
theorem dX0_quotient_112 : decode cX0_quotient 112 = .ok (.iload 15, 2) := by decide +kernel
theorem dX0_quotient_114 : decode cX0_quotient 114 = .ok (.ifCond .eq 11, 3) := by decide +kernel
theorem dX0_quotient_117 : decode cX0_quotient 117 = .ok (.lload 10, 2) := by decide +kernel
theorem dX0_quotient_119 : decode cX0_quotient 119 = .ok (.lload 13, 2) := by decide +kernel
theorem dX0_quotient_121 : decode cX0_quotient 121 = .ok (.lsub, 1) := by decide +kernel
theorem dX0_quotient_122 : decode cX0_quotient 122 = .ok (.goto 8, 3) := by decide +kernel
theorem dX0_quotient_125 : decode cX0_quotient 125 = .ok (.lload 10, 2) := by decide +kernel
theorem dX0_quotient_127 : decode cX0_quotient 127 = .ok (.lload 10, 2) := by decide +kernel
theorem dX0_quotient_129 : decode cX0_quotient 129 = .ok (.ladd, 1) := by decide +kernel
theorem dX0_quotient_130 : decode cX0_quotient 130 = .ok (.lstore 10, 2) := by decide +kernel
theorem dX0_quotient_132 : decode cX0_quotient 132 = .ok (.iinc 12 1, 3) := by decide +kernel
theorem dX0_quotient_135 : decode cX0_quotient 135 = .ok (.goto (-72), 3) := by decide +kernel
theorem dX0_quotient_138 : decode cX0_quotient 138 = .ok (.lload 10, 2) := by decide +kernel
theorem dX0_quotient_140 : decode cX0_quotient 140 = .ok (.lload 4, 2) := by decide +kernel
theorem dX0_quotient_142 : decode cX0_quotient 142 = .ok (.lload 10, 2) := by decide +kernel
theorem dX0_quotient_144 : decode cX0_quotient 144 = .ok (.lsub, 1) := by decide +kernel
theorem dX0_quotient_145 : decode cX0_quotient 145 = .ok (.lcmp, 1) := by decide +kernel
theorem dX0_quotient_146 : decode cX0_quotient 146 = .ok (.ifCond .lt 10, 3) := by decide +kernel
theorem dX0_quotient_149 : decode cX0_quotient 149 = .ok (.lload 8, 2) := by decide +kernel
theorem dX0_quotient_151 : decode cX0_quotient 151 = .ok (.lconst 1, 1) := by decide +kernel
theorem dX0_quotient_152 : decode cX0_quotient 152 = .ok (.ladd, 1) := by decide +kernel
theorem dX0_quotient_153 : decode cX0_quotient 153 = .ok (.goto 5, 3) := by decide +kernel
theorem dX0_quotient_156 : decode cX0_quotient 156 = .ok (.lload 8, 2) := by decide +kernel
theorem dX0_quotient_158 : decode cX0_quotient 158 = .ok (.lreturn, 1) := by decide +kernel
theorem dX0_root_0 : decode cX0_root 0 = .ok (.lload_n 0, 1) := by decide +kernel
theorem dX0_root_1 : decode cX0_root 1 = .ok (.ldc2_w 91, 3) := by decide +kernel
theorem dX0_root_4 : decode cX0_root 4 = .ok (.lmul, 1) := by decide +kernel
theorem dX0_root_5 : decode cX0_root 5 = .ok (.lstore_n 2, 1) := by decide +kernel
theorem dX0_root_6 : decode cX0_root 6 = .ok (.lconst 0, 1) := by decide +kernel
theorem dX0_root_7 : decode cX0_root 7 = .ok (.lstore 4, 2) := by decide +kernel
theorem dX0_root_9 : decode cX0_root 9 = .ok (.bipush 23, 2) := by decide +kernel
theorem dX0_root_11 : decode cX0_root 11 = .ok (.istore 6, 2) := by decide +kernel
theorem dX0_root_13 : decode cX0_root 13 = .ok (.iload 6, 2) := by decide +kernel
theorem dX0_root_15 : decode cX0_root 15 = .ok (.ifCond .lt 32, 3) := by decide +kernel
theorem dX0_root_18 : decode cX0_root 18 = .ok (.lload 4, 2) := by decide +kernel
theorem dX0_root_20 : decode cX0_root 20 = .ok (.lconst 1, 1) := by decide +kernel
theorem dX0_root_21 : decode cX0_root 21 = .ok (.iload 6, 2) := by decide +kernel
theorem dX0_root_23 : decode cX0_root 23 = .ok (.lshl, 1) := by decide +kernel
theorem dX0_root_24 : decode cX0_root 24 = .ok (.ladd, 1) := by decide +kernel
theorem dX0_root_25 : decode cX0_root 25 = .ok (.lstore 7, 2) := by decide +kernel
theorem dX0_root_27 : decode cX0_root 27 = .ok (.lload 7, 2) := by decide +kernel
theorem dX0_root_29 : decode cX0_root 29 = .ok (.lload 7, 2) := by decide +kernel
theorem dX0_root_31 : decode cX0_root 31 = .ok (.lmul, 1) := by decide +kernel
theorem dX0_root_32 : decode cX0_root 32 = .ok (.lload_n 2, 1) := by decide +kernel
theorem dX0_root_33 : decode cX0_root 33 = .ok (.lcmp, 1) := by decide +kernel
theorem dX0_root_34 : decode cX0_root 34 = .ok (.ifCond .gt 7, 3) := by decide +kernel
theorem dX0_root_37 : decode cX0_root 37 = .ok (.lload 7, 2) := by decide +kernel
theorem dX0_root_39 : decode cX0_root 39 = .ok (.lstore 4, 2) := by decide +kernel
theorem dX0_root_41 : decode cX0_root 41 = .ok (.iinc 6 (-1), 3) := by decide +kernel
theorem dX0_root_44 : decode cX0_root 44 = .ok (.goto (-31), 3) := by decide +kernel
theorem dX0_root_47 : decode cX0_root 47 = .ok (.lload 4, 2) := by decide +kernel
theorem dX0_root_49 : decode cX0_root 49 = .ok (.lreturn, 1) := by decide +kernel
set_option maxRecDepth 20000 in
theorem ggX0_sine_J9_floorMod_f86c9 : GoodIn wsX0_sine wsJ9_floorMod_f86c9 := goodIn_r _ [10] (by decide +kernel) (by decide +kernel)
set_option maxRecDepth 20000 in
theorem gX0_sine_J9_floorMod_f86c9 : GoodIn wsX0_sine (va_wsS RX0 149 yJ9_floorMod_f86c9 wsJ9_floorMod_f86c9) := goodIn_app (goodIn_of _ (by decide +kernel)) ggX0_sine_J9_floorMod_f86c9
set_option maxRecDepth 20000 in
theorem ggX0_sine_X0_sineOfFirstQuarter : GoodIn wsX0_sine wsX0_sineOfFirstQuarter := goodIn_r _ [14, 15, 16, 17, 18, 19, 13, 20, 21] (by decide +kernel) (by decide +kernel)
set_option maxRecDepth 20000 in
theorem gX0_sine_X0_sineOfFirstQuarter : GoodIn wsX0_sine (va_wsS RX0 161 yX0_sineOfFirstQuarter wsX0_sineOfFirstQuarter) := goodIn_app (goodIn_of _ (by decide +kernel)) ggX0_sine_X0_sineOfFirstQuarter
theorem dX0_sine_0 : decode cX0_sine 0 = .ok (.lload_n 0, 1) := by decide +kernel
theorem dX0_sine_1 : decode cX0_sine 1 = .ok (.ldc2_w 154, 3) := by decide +kernel
theorem dX0_sine_4 : decode cX0_sine 4 = .ok (.invokestatic 149, 3) := by decide +kernel
theorem dX0_sine_7 : decode cX0_sine 7 = .ok (.lstore_n 2, 1) := by decide +kernel
theorem dX0_sine_8 : decode cX0_sine 8 = .ok (.lload_n 2, 1) := by decide +kernel
theorem dX0_sine_9 : decode cX0_sine 9 = .ok (.ldc2_w 156, 3) := by decide +kernel
theorem dX0_sine_12 : decode cX0_sine 12 = .ok (.lcmp, 1) := by decide +kernel
theorem dX0_sine_13 : decode cX0_sine 13 = .ok (.ifCond .ge 7, 3) := by decide +kernel
theorem dX0_sine_16 : decode cX0_sine 16 = .ok (.lload_n 2, 1) := by decide +kernel
theorem dX0_sine_17 : decode cX0_sine 17 = .ok (.goto 8, 3) := by decide +kernel
theorem dX0_sine_20 : decode cX0_sine 20 = .ok (.lload_n 2, 1) := by decide +kernel
theorem dX0_sine_21 : decode cX0_sine 21 = .ok (.ldc2_w 156, 3) := by decide +kernel
theorem dX0_sine_24 : decode cX0_sine 24 = .ok (.lsub, 1) := by decide +kernel
theorem dX0_sine_25 : decode cX0_sine 25 = .ok (.lstore 4, 2) := by decide +kernel
theorem dX0_sine_27 : decode cX0_sine 27 = .ok (.lload 4, 2) := by decide +kernel
theorem dX0_sine_29 : decode cX0_sine 29 = .ok (.ldc2_w 156, 3) := by decide +kernel
theorem dX0_sine_32 : decode cX0_sine 32 = .ok (.lload 4, 2) := by decide +kernel
theorem dX0_sine_34 : decode cX0_sine 34 = .ok (.lsub, 1) := by decide +kernel
theorem dX0_sine_35 : decode cX0_sine 35 = .ok (.invokestatic 158, 3) := by decide +kernel
theorem dX0_sine_38 : decode cX0_sine 38 = .ok (.invokestatic 161, 3) := by decide +kernel
theorem dX0_sine_41 : decode cX0_sine 41 = .ok (.lstore 6, 2) := by decide +kernel
theorem dX0_sine_43 : decode cX0_sine 43 = .ok (.lload_n 2, 1) := by decide +kernel
theorem dX0_sine_44 : decode cX0_sine 44 = .ok (.ldc2_w 156, 3) := by decide +kernel
theorem dX0_sine_47 : decode cX0_sine 47 = .ok (.lcmp, 1) := by decide +kernel
theorem dX0_sine_48 : decode cX0_sine 48 = .ok (.ifCond .ge 8, 3) := by decide +kernel
theorem dX0_sine_51 : decode cX0_sine 51 = .ok (.lload 6, 2) := by decide +kernel
theorem dX0_sine_53 : decode cX0_sine 53 = .ok (.goto 6, 3) := by decide +kernel
theorem dX0_sine_56 : decode cX0_sine 56 = .ok (.lload 6, 2) := by decide +kernel
theorem dX0_sine_58 : decode cX0_sine 58 = .ok (.lneg, 1) := by decide +kernel
theorem dX0_sine_59 : decode cX0_sine 59 = .ok (.lreturn, 1) := by decide +kernel
set_option maxRecDepth 20000 in
theorem ggX0_sineOfFirstQuarter_X0_withoutPlaces : GoodIn wsX0_sineOfFirstQuarter wsX0_withoutPlaces := goodIn_r _ [7, 8] (by decide +kernel) (by decide +kernel)
set_option maxRecDepth 20000 in
theorem gX0_sineOfFirstQuarter_X0_withoutPlaces : GoodIn wsX0_sineOfFirstQuarter (va_wsS RX0 111 yX0_withoutPlaces wsX0_withoutPlaces) := goodIn_app (goodIn_of _ (by decide +kernel)) ggX0_sineOfFirstQuarter_X0_withoutPlaces
theorem dX0_sineOfFirstQuarter_0 : decode cX0_sineOfFirstQuarter 0 = .ok (.lload_n 0, 1) := by decide +kernel
theorem dX0_sineOfFirstQuarter_1 : decode cX0_sineOfFirstQuarter 1 = .ok (.lconst 0, 1) := by decide +kernel
theorem dX0_sineOfFirstQuarter_2 : decode cX0_sineOfFirstQuarter 2 = .ok (.lcmp, 1) := by decide +kernel
theorem dX0_sineOfFirstQuarter_3 : decode cX0_sineOfFirstQuarter 3 = .ok (.ifCond .gt 5, 3) := by decide +kernel
theorem dX0_sineOfFirstQuarter_6 : decode cX0_sineOfFirstQuarter 6 = .ok (.lconst 0, 1) := by decide +kernel
theorem dX0_sineOfFirstQuarter_7 : decode cX0_sineOfFirstQuarter 7 = .ok (.lreturn, 1) := by decide +kernel
theorem dX0_sineOfFirstQuarter_8 : decode cX0_sineOfFirstQuarter 8 = .ok (.lload_n 0, 1) := by decide +kernel
theorem dX0_sineOfFirstQuarter_9 : decode cX0_sineOfFirstQuarter 9 = .ok (.ldc2_w 133, 3) := by decide +kernel
theorem dX0_sineOfFirstQuarter_12 : decode cX0_sineOfFirstQuarter 12 = .ok (.lcmp, 1) := by decide +kernel
theorem dX0_sineOfFirstQuarter_13 : decode cX0_sineOfFirstQuarter 13 = .ok (.ifCond .lt 7, 3) := by decide +kernel
theorem dX0_sineOfFirstQuarter_16 : decode cX0_sineOfFirstQuarter 16 = .ok (.ldc2_w 91, 3) := by decide +kernel
theorem dX0_sineOfFirstQuarter_19 : decode cX0_sineOfFirstQuarter 19 = .ok (.lreturn, 1) := by decide +kernel
theorem dX0_sineOfFirstQuarter_20 : decode cX0_sineOfFirstQuarter 20 = .ok (.lload_n 0, 1) := by decide +kernel
theorem dX0_sineOfFirstQuarter_21 : decode cX0_sineOfFirstQuarter 21 = .ok (.bipush 16, 2) := by decide +kernel
theorem dX0_sineOfFirstQuarter_23 : decode cX0_sineOfFirstQuarter 23 = .ok (.lshr, 1) := by decide +kernel
theorem dX0_sineOfFirstQuarter_24 : decode cX0_sineOfFirstQuarter 24 = .ok (.l2i, 1) := by decide +kernel
theorem dX0_sineOfFirstQuarter_25 : decode cX0_sineOfFirstQuarter 25 = .ok (.istore_n 2, 1) := by decide +kernel
theorem dX0_sineOfFirstQuarter_26 : decode cX0_sineOfFirstQuarter 26 = .ok (.lload_n 0, 1) := by decide +kernel
theorem dX0_sineOfFirstQuarter_27 : decode cX0_sineOfFirstQuarter 27 = .ok (.iload_n 2, 1) := by decide +kernel
theorem dX0_sineOfFirstQuarter_28 : decode cX0_sineOfFirstQuarter 28 = .ok (.i2l, 1) := by decide +kernel
theorem dX0_sineOfFirstQuarter_29 : decode cX0_sineOfFirstQuarter 29 = .ok (.ldc2_w 91, 3) := by decide +kernel
theorem dX0_sineOfFirstQuarter_32 : decode cX0_sineOfFirstQuarter 32 = .ok (.lmul, 1) := by decide +kernel
theorem dX0_sineOfFirstQuarter_33 : decode cX0_sineOfFirstQuarter 33 = .ok (.lsub, 1) := by decide +kernel
theorem dX0_sineOfFirstQuarter_34 : decode cX0_sineOfFirstQuarter 34 = .ok (.lstore_n 3, 1) := by decide +kernel
theorem dX0_sineOfFirstQuarter_35 : decode cX0_sineOfFirstQuarter 35 = .ok (.getstatic 164, 3) := by decide +kernel
theorem dX0_sineOfFirstQuarter_38 : decode cX0_sineOfFirstQuarter 38 = .ok (.iload_n 2, 1) := by decide +kernel
theorem dX0_sineOfFirstQuarter_39 : decode cX0_sineOfFirstQuarter 39 = .ok (.iaload, 1) := by decide +kernel
theorem dX0_sineOfFirstQuarter_40 : decode cX0_sineOfFirstQuarter 40 = .ok (.i2l, 1) := by decide +kernel
theorem dX0_sineOfFirstQuarter_41 : decode cX0_sineOfFirstQuarter 41 = .ok (.getstatic 164, 3) := by decide +kernel
theorem dX0_sineOfFirstQuarter_44 : decode cX0_sineOfFirstQuarter 44 = .ok (.iload_n 2, 1) := by decide +kernel
theorem dX0_sineOfFirstQuarter_45 : decode cX0_sineOfFirstQuarter 45 = .ok (.iconst 1, 1) := by decide +kernel
theorem dX0_sineOfFirstQuarter_46 : decode cX0_sineOfFirstQuarter 46 = .ok (.iadd, 1) := by decide +kernel
theorem dX0_sineOfFirstQuarter_47 : decode cX0_sineOfFirstQuarter 47 = .ok (.iaload, 1) := by decide +kernel
theorem dX0_sineOfFirstQuarter_48 : decode cX0_sineOfFirstQuarter 48 = .ok (.getstatic 164, 3) := by decide +kernel
theorem dX0_sineOfFirstQuarter_51 : decode cX0_sineOfFirstQuarter 51 = .ok (.iload_n 2, 1) := by decide +kernel
theorem dX0_sineOfFirstQuarter_52 : decode cX0_sineOfFirstQuarter 52 = .ok (.iaload, 1) := by decide +kernel
theorem dX0_sineOfFirstQuarter_53 : decode cX0_sineOfFirstQuarter 53 = .ok (.isub, 1) := by decide +kernel
theorem dX0_sineOfFirstQuarter_54 : decode cX0_sineOfFirstQuarter 54 = .ok (.i2l, 1) := by decide +kernel
theorem dX0_sineOfFirstQuarter_55 : decode cX0_sineOfFirstQuarter 55 = .ok (.lload_n 3, 1) := by decide +kernel
theorem dX0_sineOfFirstQuarter_56 : decode cX0_sineOfFirstQuarter 56 = .ok (.lmul, 1) := by decide +kernel
theorem dX0_sineOfFirstQuarter_57 : decode cX0_sineOfFirstQuarter 57 = .ok (.invokestatic 111, 3) := by decide +kernel
theorem dX0_sineOfFirstQuarter_60 : decode cX0_sineOfFirstQuarter 60 = .ok (.ladd, 1) := by decide +kernel
theorem dX0_sineOfFirstQuarter_61 : decode cX0_sineOfFirstQuarter 61 = .ok (.lreturn, 1) := by decide +kernel
set_option maxRecDepth 20000 in
theorem ggX0_angle_X0_angleOfFirstQuarter : GoodIn wsX0_angle wsX0_angleOfFirstQuarter := goodIn_r _ [10, 11, 12, 13, 14, 15, 9, 16, 17, 18, 3, 19, 20, 21, 22, 23, 24, 25, 26, 27, 28] (by decide +kernel) (by decide +kernel)
set_option maxRecDepth 20000 in
theorem gX0_angle_X0_angleOfFirstQuarter : GoodIn wsX0_angle (va_wsS RX0 168 yX0_angleOfFirstQuarter wsX0_angleOfFirstQuarter) := goodIn_app (goodIn_of _ (by decide +kernel)) ggX0_angle_X0_angleOfFirstQuarter
theorem dX0_angle_0 : decode cX0_angle 0 = .ok (.lload_n 0, 1) := by decide +kernel
theorem dX0_angle_1 : decode cX0_angle 1 = .ok (.invokestatic 118, 3) := by decide +kernel
theorem dX0_angle_4 : decode cX0_angle 4 = .ok (.lload_n 2, 1) := by decide +kernel
theorem dX0_angle_5 : decode cX0_angle 5 = .ok (.invokestatic 118, 3) := by decide +kernel
theorem dX0_angle_8 : decode cX0_angle 8 = .ok (.invokestatic 168, 3) := by decide +kernel
theorem dX0_angle_11 : decode cX0_angle 11 = .ok (.lstore 4, 2) := by decide +kernel
theorem dX0_angle_13 : decode cX0_angle 13 = .ok (.lload_n 0, 1) := by decide +kernel
theorem dX0_angle_14 : decode cX0_angle 14 = .ok (.lconst 0, 1) := by decide +kernel
theorem dX0_angle_15 : decode cX0_angle 15 = .ok (.lcmp, 1) := by decide +kernel
theorem dX0_angle_16 : decode cX0_angle 16 = .ok (.ifCond .ge 12, 3) := by decide +kernel
theorem dX0_angle_19 : decode cX0_angle 19 = .ok (.ldc2_w 156, 3) := by decide +kernel
theorem dX0_angle_22 : decode cX0_angle 22 = .ok (.lload 4, 2) := by decide +kernel
theorem dX0_angle_24 : decode cX0_angle 24 = .ok (.lsub, 1) := by decide +kernel
theorem dX0_angle_25 : decode cX0_angle 25 = .ok (.goto 5, 3) := by decide +kernel
theorem dX0_angle_28 : decode cX0_angle 28 = .ok (.lload 4, 2) := by decide +kernel
theorem dX0_angle_30 : decode cX0_angle 30 = .ok (.lstore 6, 2) := by decide +kernel
theorem dX0_angle_32 : decode cX0_angle 32 = .ok (.lload_n 2, 1) := by decide +kernel
theorem dX0_angle_33 : decode cX0_angle 33 = .ok (.lconst 0, 1) := by decide +kernel
theorem dX0_angle_34 : decode cX0_angle 34 = .ok (.lcmp, 1) := by decide +kernel
theorem dX0_angle_35 : decode cX0_angle 35 = .ok (.ifCond .ge 19, 3) := by decide +kernel
theorem dX0_angle_38 : decode cX0_angle 38 = .ok (.lload 6, 2) := by decide +kernel
theorem dX0_angle_40 : decode cX0_angle 40 = .ok (.lconst 0, 1) := by decide +kernel
theorem dX0_angle_41 : decode cX0_angle 41 = .ok (.lcmp, 1) := by decide +kernel
theorem dX0_angle_42 : decode cX0_angle 42 = .ok (.ifCond .eq 12, 3) := by decide +kernel
theorem dX0_angle_45 : decode cX0_angle 45 = .ok (.ldc2_w 154, 3) := by decide +kernel
theorem dX0_angle_48 : decode cX0_angle 48 = .ok (.lload 6, 2) := by decide +kernel
theorem dX0_angle_50 : decode cX0_angle 50 = .ok (.lsub, 1) := by decide +kernel
theorem dX0_angle_51 : decode cX0_angle 51 = .ok (.goto 5, 3) := by decide +kernel
theorem dX0_angle_54 : decode cX0_angle 54 = .ok (.lload 6, 2) := by decide +kernel
theorem dX0_angle_56 : decode cX0_angle 56 = .ok (.lreturn, 1) := by decide +kernel
set_option maxRecDepth 20000 in
theorem ggX0_angleOfFirstQuarter_X0_greatestAngle : GoodIn wsX0_angleOfFirstQuarter wsX0_greatestAngle := goodIn_r _ [7, 1, 8, 9, 10, 11, 12, 13, 6, 14, 15, 16, 17, 18, 19, 20] (by decide +kernel) (by decide +kernel)
set_option maxRecDepth 20000 in
theorem gX0_angleOfFirstQuarter_X0_greatestAngle : GoodIn wsX0_angleOfFirstQuarter (va_wsS RX0 173 yX0_greatestAngle wsX0_greatestAngle) := goodIn_app (goodIn_of _ (by decide +kernel)) ggX0_angleOfFirstQuarter_X0_greatestAngle
theorem dX0_angleOfFirstQuarter_0 : decode cX0_angleOfFirstQuarter 0 = .ok (.lload_n 2, 1) := by decide +kernel
theorem dX0_angleOfFirstQuarter_1 : decode cX0_angleOfFirstQuarter 1 = .ok (.lconst 0, 1) := by decide +kernel
theorem dX0_angleOfFirstQuarter_2 : decode cX0_angleOfFirstQuarter 2 = .ok (.lcmp, 1) := by decide +kernel
theorem dX0_angleOfFirstQuarter_3 : decode cX0_angleOfFirstQuarter 3 = .ok (.ifCond .ne 5, 3) := by decide +kernel
theorem dX0_angleOfFirstQuarter_6 : decode cX0_angleOfFirstQuarter 6 = .ok (.lconst 0, 1) := by decide +kernel
theorem dX0_angleOfFirstQuarter_7 : decode cX0_angleOfFirstQuarter 7 = .ok (.lreturn, 1) := by decide +kernel
theorem dX0_angleOfFirstQuarter_8 : decode cX0_angleOfFirstQuarter 8 = .ok (.lload_n 0, 1) := by decide +kernel
theorem dX0_angleOfFirstQuarter_9 : decode cX0_angleOfFirstQuarter 9 = .ok (.lconst 0, 1) := by decide +kernel
theorem dX0_angleOfFirstQuarter_10 : decode cX0_angleOfFirstQuarter 10 = .ok (.lcmp, 1) := by decide +kernel
theorem dX0_angleOfFirstQuarter_11 : decode cX0_angleOfFirstQuarter 11 = .ok (.ifCond .ne 7, 3) := by decide +kernel
theorem dX0_angleOfFirstQuarter_14 : decode cX0_angleOfFirstQuarter 14 = .ok (.ldc2_w 133, 3) := by decide +kernel
theorem dX0_angleOfFirstQuarter_17 : decode cX0_angleOfFirstQuarter 17 = .ok (.lreturn, 1) := by decide +kernel
theorem dX0_angleOfFirstQuarter_18 : decode cX0_angleOfFirstQuarter 18 = .ok (.lload_n 0, 1) := by decide +kernel
theorem dX0_angleOfFirstQuarter_19 : decode cX0_angleOfFirstQuarter 19 = .ok (.lload_n 2, 1) := by decide +kernel
theorem dX0_angleOfFirstQuarter_20 : decode cX0_angleOfFirstQuarter 20 = .ok (.ldc2_w 171, 3) := by decide +kernel
theorem dX0_angleOfFirstQuarter_23 : decode cX0_angleOfFirstQuarter 23 = .ok (.invokestatic 173, 3) := by decide +kernel
theorem dX0_angleOfFirstQuarter_26 : decode cX0_angleOfFirstQuarter 26 = .ok (.lconst 1, 1) := by decide +kernel
theorem dX0_angleOfFirstQuarter_27 : decode cX0_angleOfFirstQuarter 27 = .ok (.ladd, 1) := by decide +kernel
theorem dX0_angleOfFirstQuarter_28 : decode cX0_angleOfFirstQuarter 28 = .ok (.lstore 4, 2) := by decide +kernel
theorem dX0_angleOfFirstQuarter_30 : decode cX0_angleOfFirstQuarter 30 = .ok (.lload_n 0, 1) := by decide +kernel
theorem dX0_angleOfFirstQuarter_31 : decode cX0_angleOfFirstQuarter 31 = .ok (.lload_n 2, 1) := by decide +kernel
theorem dX0_angleOfFirstQuarter_32 : decode cX0_angleOfFirstQuarter 32 = .ok (.lconst 0, 1) := by decide +kernel
theorem dX0_angleOfFirstQuarter_33 : decode cX0_angleOfFirstQuarter 33 = .ok (.invokestatic 173, 3) := by decide +kernel
theorem dX0_angleOfFirstQuarter_36 : decode cX0_angleOfFirstQuarter 36 = .ok (.lstore 6, 2) := by decide +kernel
theorem dX0_angleOfFirstQuarter_38 : decode cX0_angleOfFirstQuarter 38 = .ok (.lload 4, 2) := by decide +kernel
theorem dX0_angleOfFirstQuarter_40 : decode cX0_angleOfFirstQuarter 40 = .ok (.lload 6, 2) := by decide +kernel
theorem dX0_angleOfFirstQuarter_42 : decode cX0_angleOfFirstQuarter 42 = .ok (.ladd, 1) := by decide +kernel
theorem dX0_angleOfFirstQuarter_43 : decode cX0_angleOfFirstQuarter 43 = .ok (.ldc2_w 152, 3) := by decide +kernel
theorem dX0_angleOfFirstQuarter_46 : decode cX0_angleOfFirstQuarter 46 = .ok (.ldiv, 1) := by decide +kernel
theorem dX0_angleOfFirstQuarter_47 : decode cX0_angleOfFirstQuarter 47 = .ok (.lreturn, 1) := by decide +kernel
set_option maxRecDepth 20000 in
theorem ggX0_greatestAngle_X0_sineOfFirstQuarter : GoodIn wsX0_greatestAngle wsX0_sineOfFirstQuarter := goodIn_r _ [9, 1, 10, 11, 12, 13, 8, 14, 15] (by decide +kernel) (by decide +kernel)
set_option maxRecDepth 20000 in
theorem gX0_greatestAngle_X0_sineOfFirstQuarter : GoodIn wsX0_greatestAngle (va_wsS RX0 161 yX0_sineOfFirstQuarter wsX0_sineOfFirstQuarter) := goodIn_app (goodIn_of _ (by decide +kernel)) ggX0_greatestAngle_X0_sineOfFirstQuarter
theorem dX0_greatestAngle_0 : decode cX0_greatestAngle 0 = .ok (.lconst 0, 1) := by decide +kernel
theorem dX0_greatestAngle_1 : decode cX0_greatestAngle 1 = .ok (.lstore 6, 2) := by decide +kernel
theorem dX0_greatestAngle_3 : decode cX0_greatestAngle 3 = .ok (.bipush 22, 2) := by decide +kernel
theorem dX0_greatestAngle_5 : decode cX0_greatestAngle 5 = .ok (.istore 8, 2) := by decide +kernel
theorem dX0_greatestAngle_7 : decode cX0_greatestAngle 7 = .ok (.iload 8, 2) := by decide +kernel
theorem dX0_greatestAngle_9 : decode cX0_greatestAngle 9 = .ok (.ifCond .lt 61, 3) := by decide +kernel
theorem dX0_greatestAngle_12 : decode cX0_greatestAngle 12 = .ok (.lload 6, 2) := by decide +kernel
theorem dX0_greatestAngle_14 : decode cX0_greatestAngle 14 = .ok (.lconst 1, 1) := by decide +kernel
theorem dX0_greatestAngle_15 : decode cX0_greatestAngle 15 = .ok (.iload 8, 2) := by decide +kernel
theorem dX0_greatestAngle_17 : decode cX0_greatestAngle 17 = .ok (.lshl, 1) := by decide +kernel
theorem dX0_greatestAngle_18 : decode cX0_greatestAngle 18 = .ok (.ladd, 1) := by decide +kernel
theorem dX0_greatestAngle_19 : decode cX0_greatestAngle 19 = .ok (.ldc2_w 133, 3) := by decide +kernel
theorem dX0_greatestAngle_22 : decode cX0_greatestAngle 22 = .ok (.invokestatic 158, 3) := by decide +kernel
theorem dX0_greatestAngle_25 : decode cX0_greatestAngle 25 = .ok (.lstore 9, 2) := by decide +kernel
theorem dX0_greatestAngle_27 : decode cX0_greatestAngle 27 = .ok (.lload 9, 2) := by decide +kernel
theorem dX0_greatestAngle_29 : decode cX0_greatestAngle 29 = .ok (.invokestatic 161, 3) := by decide +kernel
theorem dX0_greatestAngle_32 : decode cX0_greatestAngle 32 = .ok (.lstore 11, 2) := by decide +kernel
theorem dX0_greatestAngle_34 : decode cX0_greatestAngle 34 = .ok (.ldc2_w 133, 3) := by decide +kernel
theorem dX0_greatestAngle_37 : decode cX0_greatestAngle 37 = .ok (.lload 9, 2) := by decide +kernel
theorem dX0_greatestAngle_39 : decode cX0_greatestAngle 39 = .ok (.lsub, 1) := by decide +kernel
theorem dX0_greatestAngle_40 : decode cX0_greatestAngle 40 = .ok (.invokestatic 161, 3) := by decide +kernel
theorem dX0_greatestAngle_43 : decode cX0_greatestAngle 43 = .ok (.lstore 13, 2) := by decide +kernel
theorem dX0_greatestAngle_45 : decode cX0_greatestAngle 45 = .ok (.lload_n 0, 1) := by decide +kernel
theorem dX0_greatestAngle_46 : decode cX0_greatestAngle 46 = .ok (.lload 11, 2) := by decide +kernel
theorem dX0_greatestAngle_48 : decode cX0_greatestAngle 48 = .ok (.lmul, 1) := by decide +kernel
theorem dX0_greatestAngle_49 : decode cX0_greatestAngle 49 = .ok (.lload_n 2, 1) := by decide +kernel
theorem dX0_greatestAngle_50 : decode cX0_greatestAngle 50 = .ok (.lload 13, 2) := by decide +kernel
theorem dX0_greatestAngle_52 : decode cX0_greatestAngle 52 = .ok (.lmul, 1) := by decide +kernel
theorem dX0_greatestAngle_53 : decode cX0_greatestAngle 53 = .ok (.lsub, 1) := by decide +kernel
theorem dX0_greatestAngle_54 : decode cX0_greatestAngle 54 = .ok (.lload 4, 2) := by decide +kernel
theorem dX0_greatestAngle_56 : decode cX0_greatestAngle 56 = .ok (.lcmp, 1) := by decide +kernel
theorem dX0_greatestAngle_57 : decode cX0_greatestAngle 57 = .ok (.ifCond .gt 7, 3) := by decide +kernel
theorem dX0_greatestAngle_60 : decode cX0_greatestAngle 60 = .ok (.lload 9, 2) := by decide +kernel
theorem dX0_greatestAngle_62 : decode cX0_greatestAngle 62 = .ok (.lstore 6, 2) := by decide +kernel
theorem dX0_greatestAngle_64 : decode cX0_greatestAngle 64 = .ok (.iinc 8 (-1), 3) := by decide +kernel
theorem dX0_greatestAngle_67 : decode cX0_greatestAngle 67 = .ok (.goto (-60), 3) := by decide +kernel
theorem dX0_greatestAngle_70 : decode cX0_greatestAngle 70 = .ok (.lload 6, 2) := by decide +kernel
theorem dX0_greatestAngle_72 : decode cX0_greatestAngle 72 = .ok (.lreturn, 1) := by decide +kernel
theorem dX0_cross_0 : decode cX0_cross 0 = .ok (.iload_n 0, 1) := by decide +kernel
theorem dX0_cross_1 : decode cX0_cross 1 = .ok (.i2l, 1) := by decide +kernel
theorem dX0_cross_2 : decode cX0_cross 2 = .ok (.iload_n 1, 1) := by decide +kernel
theorem dX0_cross_3 : decode cX0_cross 3 = .ok (.i2l, 1) := by decide +kernel
theorem dX0_cross_4 : decode cX0_cross 4 = .ok (.lmul, 1) := by decide +kernel
theorem dX0_cross_5 : decode cX0_cross 5 = .ok (.iload_n 2, 1) := by decide +kernel
theorem dX0_cross_6 : decode cX0_cross 6 = .ok (.i2l, 1) := by decide +kernel
theorem dX0_cross_7 : decode cX0_cross 7 = .ok (.iload_n 3, 1) := by decide +kernel
theorem dX0_cross_8 : decode cX0_cross 8 = .ok (.i2l, 1) := by decide +kernel
theorem dX0_cross_9 : decode cX0_cross 9 = .ok (.lmul, 1) := by decide +kernel
theorem dX0_cross_10 : decode cX0_cross 10 = .ok (.lsub, 1) := by decide +kernel
theorem dX0_cross_11 : decode cX0_cross 11 = .ok (.lreturn, 1) := by decide +kernel
set_option maxRecDepth 20000 in
theorem ggX0_turnedX_X0_withoutPlaces : GoodIn wsX0_turnedX wsX0_withoutPlaces := goodIn_r _ [6, 7] (by decide +kernel) (by decide +kernel)
set_option maxRecDepth 20000 in
theorem gX0_turnedX_X0_withoutPlaces : GoodIn wsX0_turnedX (va_wsS RX0 111 yX0_withoutPlaces wsX0_withoutPlaces) := goodIn_app (goodIn_of _ (by decide +kernel)) ggX0_turnedX_X0_withoutPlaces
theorem dX0_turnedX_0 : decode cX0_turnedX 0 = .ok (.iload_n 1, 1) := by decide +kernel
theorem dX0_turnedX_1 : decode cX0_turnedX 1 = .ok (.i2l, 1) := by decide +kernel
theorem dX0_turnedX_2 : decode cX0_turnedX 2 = .ok (.aload_n 0, 1) := by decide +kernel
theorem dX0_turnedX_3 : decode cX0_turnedX 3 = .ok (.getfield 16, 3) := by decide +kernel
theorem dX0_turnedX_6 : decode cX0_turnedX 6 = .ok (.i2l, 1) := by decide +kernel
theorem dX0_turnedX_7 : decode cX0_turnedX 7 = .ok (.lmul, 1) := by decide +kernel
theorem dX0_turnedX_8 : decode cX0_turnedX 8 = .ok (.iload_n 2, 1) := by decide +kernel
theorem dX0_turnedX_9 : decode cX0_turnedX 9 = .ok (.i2l, 1) := by decide +kernel
theorem dX0_turnedX_10 : decode cX0_turnedX 10 = .ok (.aload_n 0, 1) := by decide +kernel
theorem dX0_turnedX_11 : decode cX0_turnedX 11 = .ok (.getfield 69, 3) := by decide +kernel
theorem dX0_turnedX_14 : decode cX0_turnedX 14 = .ok (.i2l, 1) := by decide +kernel
theorem dX0_turnedX_15 : decode cX0_turnedX 15 = .ok (.lmul, 1) := by decide +kernel
theorem dX0_turnedX_16 : decode cX0_turnedX 16 = .ok (.ladd, 1) := by decide +kernel
theorem dX0_turnedX_17 : decode cX0_turnedX 17 = .ok (.invokestatic 111, 3) := by decide +kernel
theorem dX0_turnedX_20 : decode cX0_turnedX 20 = .ok (.lreturn, 1) := by decide +kernel
set_option maxRecDepth 20000 in
theorem ggX0_turnedY_X0_withoutPlaces : GoodIn wsX0_turnedY wsX0_withoutPlaces := goodIn_r _ [6, 7] (by decide +kernel) (by decide +kernel)
set_option maxRecDepth 20000 in
theorem gX0_turnedY_X0_withoutPlaces : GoodIn wsX0_turnedY (va_wsS RX0 111 yX0_withoutPlaces wsX0_withoutPlaces) := goodIn_app (goodIn_of _ (by decide +kernel)) ggX0_turnedY_X0_withoutPlaces
theorem dX0_turnedY_0 : decode cX0_turnedY 0 = .ok (.iload_n 1, 1) := by decide +kernel
theorem dX0_turnedY_1 : decode cX0_turnedY 1 = .ok (.i2l, 1) := by decide +kernel
theorem dX0_turnedY_2 : decode cX0_turnedY 2 = .ok (.aload_n 0, 1) := by decide +kernel
theorem dX0_turnedY_3 : decode cX0_turnedY 3 = .ok (.getfield 66, 3) := by decide +kernel
theorem dX0_turnedY_6 : decode cX0_turnedY 6 = .ok (.i2l, 1) := by decide +kernel
theorem dX0_turnedY_7 : decode cX0_turnedY 7 = .ok (.lmul, 1) := by decide +kernel
theorem dX0_turnedY_8 : decode cX0_turnedY 8 = .ok (.iload_n 2, 1) := by decide +kernel
theorem dX0_turnedY_9 : decode cX0_turnedY 9 = .ok (.i2l, 1) := by decide +kernel
theorem dX0_turnedY_10 : decode cX0_turnedY 10 = .ok (.aload_n 0, 1) := by decide +kernel
theorem dX0_turnedY_11 : decode cX0_turnedY 11 = .ok (.getfield 19, 3) := by decide +kernel
theorem dX0_turnedY_14 : decode cX0_turnedY 14 = .ok (.i2l, 1) := by decide +kernel
theorem dX0_turnedY_15 : decode cX0_turnedY 15 = .ok (.lmul, 1) := by decide +kernel
theorem dX0_turnedY_16 : decode cX0_turnedY 16 = .ok (.ladd, 1) := by decide +kernel
theorem dX0_turnedY_17 : decode cX0_turnedY 17 = .ok (.invokestatic 111, 3) := by decide +kernel
theorem dX0_turnedY_20 : decode cX0_turnedY 20 = .ok (.lreturn, 1) := by decide +kernel
