theorem dX1_init_0 : decode cX1_init 0 = .ok (.aload_n 0, 1) := by decide +kernel
theorem dX1_init_1 : decode cX1_init 1 = .ok (.invokespecial 1, 3) := by decide +kernel
theorem dX1_init_4 : decode cX1_init 4 = .ok (.aload_n 0, 1) := by decide +kernel
theorem dX1_init_5 : decode cX1_init 5 = .ok (.iconst 1, 1) := by decide +kernel
theorem dX1_init_6 : decode cX1_init 6 = .ok (.putfield 9, 3) := by decide +kernel
theorem dX1_init_9 : decode cX1_init 9 = .ok (.aload_n 0, 1) := by decide +kernel
theorem dX1_init_10 : decode cX1_init 10 = .ok (.bipush 6, 2) := by decide +kernel
theorem dX1_init_12 : decode cX1_init 12 = .ok (.newarray .int, 2) := by decide +kernel
theorem dX1_init_14 : decode cX1_init 14 = .ok (.putfield 13, 3) := by decide +kernel
theorem dX1_init_17 : decode cX1_init 17 = .ok (.aload_n 0, 1) := by decide +kernel
theorem dX1_init_18 : decode cX1_init 18 = .ok (.bipush 6, 2) := by decide +kernel
theorem dX1_init_20 : decode cX1_init 20 = .ok (.newarray .long, 2) := by decide +kernel
theorem dX1_init_22 : decode cX1_init 22 = .ok (.putfield 17, 3) := by decide +kernel
theorem dX1_init_25 : decode cX1_init 25 = .ok (.aload_n 0, 1) := by decide +kernel
theorem dX1_init_26 : decode cX1_init 26 = .ok (.getfield 13, 3) := by decide +kernel
theorem dX1_init_29 : decode cX1_init 29 = .ok (.iconst 0, 1) := by decide +kernel
theorem dX1_init_30 : decode cX1_init 30 = .ok (.ldc 21, 2) := by decide +kernel
theorem dX1_init_32 : decode cX1_init 32 = .ok (.iastore, 1) := by decide +kernel
theorem dX1_init_33 : decode cX1_init 33 = .ok (.aload_n 0, 1) := by decide +kernel
theorem dX1_init_34 : decode cX1_init 34 = .ok (.getfield 13, 3) := by decide +kernel
theorem dX1_init_37 : decode cX1_init 37 = .ok (.iconst 3, 1) := by decide +kernel
theorem dX1_init_38 : decode cX1_init 38 = .ok (.ldc 21, 2) := by decide +kernel
theorem dX1_init_40 : decode cX1_init 40 = .ok (.iastore, 1) := by decide +kernel
theorem dX1_init_41 : decode cX1_init 41 = .ok (.return_, 1) := by decide +kernel
theorem dX1_isValue_0 : decode cX1_isValue 0 = .ok (.iload_n 0, 1) := by decide +kernel
theorem dX1_isValue_1 : decode cX1_isValue 1 = .ok (.iconst 1, 1) := by decide +kernel
theorem dX1_isValue_2 : decode cX1_isValue 2 = .ok (.if_icmp .eq 14, 3) := by decide +kernel
theorem dX1_isValue_5 : decode cX1_isValue 5 = .ok (.iload_n 0, 1) := by decide +kernel
theorem dX1_isValue_6 : decode cX1_isValue 6 = .ok (.iconst 2, 1) := by decide +kernel
theorem dX1_isValue_7 : decode cX1_isValue 7 = .ok (.if_icmp .ne 13, 3) := by decide +kernel
theorem dX1_isValue_10 : decode cX1_isValue 10 = .ok (.iload_n 1, 1) := by decide +kernel
theorem dX1_isValue_11 : decode cX1_isValue 11 = .ok (.ldc 22, 2) := by decide +kernel
theorem dX1_isValue_13 : decode cX1_isValue 13 = .ok (.if_icmp .eq 7, 3) := by decide +kernel
theorem dX1_isValue_16 : decode cX1_isValue 16 = .ok (.iconst 1, 1) := by decide +kernel
theorem dX1_isValue_17 : decode cX1_isValue 17 = .ok (.goto 4, 3) := by decide +kernel
theorem dX1_isValue_20 : decode cX1_isValue 20 = .ok (.iconst 0, 1) := by decide +kernel
theorem dX1_isValue_21 : decode cX1_isValue 21 = .ok (.ireturn, 1) := by decide +kernel
theorem dX1_hasUnits_0 : decode cX1_hasUnits 0 = .ok (.iload_n 0, 1) := by decide +kernel
theorem dX1_hasUnits_1 : decode cX1_hasUnits 1 = .ok (.iconst 2, 1) := by decide +kernel
theorem dX1_hasUnits_2 : decode cX1_hasUnits 2 = .ok (.if_icmp .eq 17, 3) := by decide +kernel
theorem dX1_hasUnits_5 : decode cX1_hasUnits 5 = .ok (.iload_n 1, 1) := by decide +kernel
theorem dX1_hasUnits_6 : decode cX1_hasUnits 6 = .ok (.sipush (-32767), 3) := by decide +kernel
theorem dX1_hasUnits_9 : decode cX1_hasUnits 9 = .ok (.if_icmp .lt 14, 3) := by decide +kernel
theorem dX1_hasUnits_12 : decode cX1_hasUnits 12 = .ok (.iload_n 1, 1) := by decide +kernel
theorem dX1_hasUnits_13 : decode cX1_hasUnits 13 = .ok (.sipush 32767, 3) := by decide +kernel
theorem dX1_hasUnits_16 : decode cX1_hasUnits 16 = .ok (.if_icmp .gt 7, 3) := by decide +kernel
theorem dX1_hasUnits_19 : decode cX1_hasUnits 19 = .ok (.iconst 1, 1) := by decide +kernel
theorem dX1_hasUnits_20 : decode cX1_hasUnits 20 = .ok (.goto 4, 3) := by decide +kernel
theorem dX1_hasUnits_23 : decode cX1_hasUnits 23 = .ok (.iconst 0, 1) := by decide +kernel
theorem dX1_hasUnits_24 : decode cX1_hasUnits 24 = .ok (.ireturn, 1) := by decide +kernel
theorem dX1_units_0 : decode cX1_units 0 = .ok (.iload_n 0, 1) := by decide +kernel
theorem dX1_units_1 : decode cX1_units 1 = .ok (.iconst 2, 1) := by decide +kernel
theorem dX1_units_2 : decode cX1_units 2 = .ok (.if_icmp .ne 8, 3) := by decide +kernel
theorem dX1_units_5 : decode cX1_units 5 = .ok (.iload_n 1, 1) := by decide +kernel
theorem dX1_units_6 : decode cX1_units 6 = .ok (.i2l, 1) := by decide +kernel
theorem dX1_units_7 : decode cX1_units 7 = .ok (.goto 9, 3) := by decide +kernel
theorem dX1_units_10 : decode cX1_units 10 = .ok (.ldc2_w 23, 3) := by decide +kernel
theorem dX1_units_13 : decode cX1_units 13 = .ok (.iload_n 1, 1) := by decide +kernel
theorem dX1_units_14 : decode cX1_units 14 = .ok (.i2l, 1) := by decide +kernel
theorem dX1_units_15 : decode cX1_units 15 = .ok (.lmul, 1) := by decide +kernel
theorem dX1_units_16 : decode cX1_units 16 = .ok (.lreturn, 1) := by decide +kernel
theorem dX1_whole_0 : decode cX1_whole 0 = .ok (.lload_n 1, 1) := by decide +kernel
theorem dX1_whole_1 : decode cX1_whole 1 = .ok (.ldc2_w 25, 3) := by decide +kernel
theorem dX1_whole_4 : decode cX1_whole 4 = .ok (.lcmp, 1) := by decide +kernel
theorem dX1_whole_5 : decode cX1_whole 5 = .ok (.ifCond .gt 11, 3) := by decide +kernel
theorem dX1_whole_8 : decode cX1_whole 8 = .ok (.lload_n 1, 1) := by decide +kernel
theorem dX1_whole_9 : decode cX1_whole 9 = .ok (.ldc2_w 27, 3) := by decide +kernel
theorem dX1_whole_12 : decode cX1_whole 12 = .ok (.lcmp, 1) := by decide +kernel
theorem dX1_whole_13 : decode cX1_whole 13 = .ok (.ifCond .ge 6, 3) := by decide +kernel
theorem dX1_whole_16 : decode cX1_whole 16 = .ok (.bipush (-2), 2) := by decide +kernel
theorem dX1_whole_18 : decode cX1_whole 18 = .ok (.ireturn, 1) := by decide +kernel
theorem dX1_whole_19 : decode cX1_whole 19 = .ok (.aload_n 0, 1) := by decide +kernel
theorem dX1_whole_20 : decode cX1_whole 20 = .ok (.iconst 1, 1) := by decide +kernel
theorem dX1_whole_21 : decode cX1_whole 21 = .ok (.putfield 9, 3) := by decide +kernel
theorem dX1_whole_24 : decode cX1_whole 24 = .ok (.aload_n 0, 1) := by decide +kernel
theorem dX1_whole_25 : decode cX1_whole 25 = .ok (.lload_n 1, 1) := by decide +kernel
theorem dX1_whole_26 : decode cX1_whole 26 = .ok (.l2i, 1) := by decide +kernel
theorem dX1_whole_27 : decode cX1_whole 27 = .ok (.putfield 29, 3) := by decide +kernel
theorem dX1_whole_30 : decode cX1_whole 30 = .ok (.iconst 1, 1) := by decide +kernel
theorem dX1_whole_31 : decode cX1_whole 31 = .ok (.ireturn, 1) := by decide +kernel
theorem dX1_real_0 : decode cX1_real 0 = .ok (.lload_n 1, 1) := by decide +kernel
theorem dX1_real_1 : decode cX1_real 1 = .ok (.ldc2_w 25, 3) := by decide +kernel
theorem dX1_real_4 : decode cX1_real 4 = .ok (.lcmp, 1) := by decide +kernel
theorem dX1_real_5 : decode cX1_real 5 = .ok (.ifCond .gt 11, 3) := by decide +kernel
theorem dX1_real_8 : decode cX1_real 8 = .ok (.lload_n 1, 1) := by decide +kernel
theorem dX1_real_9 : decode cX1_real 9 = .ok (.ldc2_w 32, 3) := by decide +kernel
theorem dX1_real_12 : decode cX1_real 12 = .ok (.lcmp, 1) := by decide +kernel
theorem dX1_real_13 : decode cX1_real 13 = .ok (.ifCond .ge 6, 3) := by decide +kernel
theorem dX1_real_16 : decode cX1_real 16 = .ok (.bipush (-2), 2) := by decide +kernel
theorem dX1_real_18 : decode cX1_real 18 = .ok (.ireturn, 1) := by decide +kernel
theorem dX1_real_19 : decode cX1_real 19 = .ok (.aload_n 0, 1) := by decide +kernel
theorem dX1_real_20 : decode cX1_real 20 = .ok (.iconst 2, 1) := by decide +kernel
theorem dX1_real_21 : decode cX1_real 21 = .ok (.putfield 9, 3) := by decide +kernel
theorem dX1_real_24 : decode cX1_real 24 = .ok (.aload_n 0, 1) := by decide +kernel
theorem dX1_real_25 : decode cX1_real 25 = .ok (.lload_n 1, 1) := by decide +kernel
theorem dX1_real_26 : decode cX1_real 26 = .ok (.l2i, 1) := by decide +kernel
theorem dX1_real_27 : decode cX1_real 27 = .ok (.putfield 29, 3) := by decide +kernel
theorem dX1_real_30 : decode cX1_real 30 = .ok (.iconst 2, 1) := by decide +kernel
theorem dX1_real_31 : decode cX1_real 31 = .ok (.ireturn, 1) := by decide +kernel
theorem dX1_down_0 : decode cX1_down 0 = .ok (.lload_n 0, 1) := by decide +kernel
theorem dX1_down_1 : decode cX1_down 1 = .ok (.lload_n 2, 1) := by decide +kernel
theorem dX1_down_2 : decode cX1_down 2 = .ok (.ldiv, 1) := by decide +kernel
theorem dX1_down_3 : decode cX1_down 3 = .ok (.lstore 4, 2) := by decide +kernel
theorem dX1_down_5 : decode cX1_down 5 = .ok (.lload_n 0, 1) := by decide +kernel
theorem dX1_down_6 : decode cX1_down 6 = .ok (.lload_n 2, 1) := by decide +kernel
theorem dX1_down_7 : decode cX1_down 7 = .ok (.lrem, 1) := by decide +kernel
theorem dX1_down_8 : decode cX1_down 8 = .ok (.lconst 0, 1) := by decide +kernel
theorem dX1_down_9 : decode cX1_down 9 = .ok (.lcmp, 1) := by decide +kernel
theorem dX1_down_10 : decode cX1_down 10 = .ok (.ifCond .eq 35, 3) := by decide +kernel
theorem dX1_down_13 : decode cX1_down 13 = .ok (.lload_n 0, 1) := by decide +kernel
theorem dX1_down_14 : decode cX1_down 14 = .ok (.lconst 0, 1) := by decide +kernel
theorem dX1_down_15 : decode cX1_down 15 = .ok (.lcmp, 1) := by decide +kernel
theorem dX1_down_16 : decode cX1_down 16 = .ok (.ifCond .ge 7, 3) := by decide +kernel
theorem dX1_down_19 : decode cX1_down 19 = .ok (.iconst 1, 1) := by decide +kernel
theorem dX1_down_20 : decode cX1_down 20 = .ok (.goto 4, 3) := by decide +kernel
theorem dX1_down_23 : decode cX1_down 23 = .ok (.iconst 0, 1) := by decide +kernel
theorem dX1_down_24 : decode cX1_down 24 = .ok (.lload_n 2, 1) := by decide +kernel
theorem dX1_down_25 : decode cX1_down 25 = .ok (.lconst 0, 1) := by decide +kernel
theorem dX1_down_26 : decode cX1_down 26 = .ok (.lcmp, 1) := by decide +kernel
theorem dX1_down_27 : decode cX1_down 27 = .ok (.ifCond .ge 7, 3) := by decide +kernel
theorem dX1_down_30 : decode cX1_down 30 = .ok (.iconst 1, 1) := by decide +kernel
theorem dX1_down_31 : decode cX1_down 31 = .ok (.goto 4, 3) := by decide +kernel
theorem dX1_down_34 : decode cX1_down 34 = .ok (.iconst 0, 1) := by decide +kernel
theorem dX1_down_35 : decode cX1_down 35 = .ok (.if_icmp .eq 10, 3) := by decide +kernel
theorem dX1_down_38 : decode cX1_down 38 = .ok (.lload 4, 2) := by decide +kernel
theorem dX1_down_40 : decode cX1_down 40 = .ok (.lconst 1, 1) := by decide +kernel
theorem dX1_down_41 : decode cX1_down 41 = .ok (.lsub, 1) := by decide +kernel
theorem dX1_down_42 : decode cX1_down 42 = .ok (.goto 5, 3) := by decide +kernel
theorem dX1_down_45 : decode cX1_down 45 = .ok (.lload 4, 2) := by decide +kernel
theorem dX1_down_47 : decode cX1_down 47 = .ok (.lreturn, 1) := by decide +kernel
set_option maxRecDepth 20000 in
theorem ggX1_rounded_X1_down : GoodIn wsX1_rounded wsX1_down := goodIn_r _ [6] (by decide +kernel) (by decide +kernel)
set_option maxRecDepth 20000 in
theorem gX1_rounded_X1_down : GoodIn wsX1_rounded (va_wsS RX1 36 yX1_down wsX1_down) := goodIn_app (goodIn_of _ (by decide +kernel)) ggX1_rounded_X1_down
theorem dX1_rounded_0 : decode cX1_rounded 0 = .ok (.lload_n 0, 1) := by decide +kernel
theorem dX1_rounded_1 : decode cX1_rounded 1 = .ok (.ldc2_w 34, 3) := by decide +kernel
theorem dX1_rounded_4 : decode cX1_rounded 4 = .ok (.ladd, 1) := by decide +kernel
theorem dX1_rounded_5 : decode cX1_rounded 5 = .ok (.ldc2_w 23, 3) := by decide +kernel
theorem dX1_rounded_8 : decode cX1_rounded 8 = .ok (.invokestatic 36, 3) := by decide +kernel
theorem dX1_rounded_11 : decode cX1_rounded 11 = .ok (.lreturn, 1) := by decide +kernel
set_option maxRecDepth 20000 in
theorem ggX1_quotient_X1_down : GoodIn wsX1_quotient wsX1_down := goodIn_r _ [8] (by decide +kernel) (by decide +kernel)
set_option maxRecDepth 20000 in
theorem gX1_quotient_X1_down : GoodIn wsX1_quotient (va_wsS RX1 36 yX1_down wsX1_down) := goodIn_app (goodIn_of _ (by decide +kernel)) ggX1_quotient_X1_down
theorem dX1_quotient_0 : decode cX1_quotient 0 = .ok (.lload_n 3, 1) := by decide +kernel
theorem dX1_quotient_1 : decode cX1_quotient 1 = .ok (.lconst 0, 1) := by decide +kernel
theorem dX1_quotient_2 : decode cX1_quotient 2 = .ok (.lcmp, 1) := by decide +kernel
theorem dX1_quotient_3 : decode cX1_quotient 3 = .ok (.ifCond .ge 8, 3) := by decide +kernel
theorem dX1_quotient_6 : decode cX1_quotient 6 = .ok (.lload_n 1, 1) := by decide +kernel
theorem dX1_quotient_7 : decode cX1_quotient 7 = .ok (.lneg, 1) := by decide +kernel
theorem dX1_quotient_8 : decode cX1_quotient 8 = .ok (.goto 4, 3) := by decide +kernel
theorem dX1_quotient_11 : decode cX1_quotient 11 = .ok (.lload_n 1, 1) := by decide +kernel
theorem dX1_quotient_12 : decode cX1_quotient 12 = .ok (.lstore 6, 2) := by decide +kernel
theorem dX1_quotient_14 : decode cX1_quotient 14 = .ok (.lload_n 3, 1) := by decide +kernel
theorem dX1_quotient_15 : decode cX1_quotient 15 = .ok (.lconst 0, 1) := by decide +kernel
theorem dX1_quotient_16 : decode cX1_quotient 16 = .ok (.lcmp, 1) := by decide +kernel
theorem dX1_quotient_17 : decode cX1_quotient 17 = .ok (.ifCond .ge 8, 3) := by decide +kernel
theorem dX1_quotient_20 : decode cX1_quotient 20 = .ok (.lload_n 3, 1) := by decide +kernel
theorem dX1_quotient_21 : decode cX1_quotient 21 = .ok (.lneg, 1) := by decide +kernel
theorem dX1_quotient_22 : decode cX1_quotient 22 = .ok (.goto 4, 3) := by decide +kernel
theorem dX1_quotient_25 : decode cX1_quotient 25 = .ok (.lload_n 3, 1) := by decide +kernel
theorem dX1_quotient_26 : decode cX1_quotient 26 = .ok (.lstore 8, 2) := by decide +kernel
theorem dX1_quotient_28 : decode cX1_quotient 28 = .ok (.lload 6, 2) := by decide +kernel
theorem dX1_quotient_30 : decode cX1_quotient 30 = .ok (.lload 8, 2) := by decide +kernel
theorem dX1_quotient_32 : decode cX1_quotient 32 = .ok (.invokestatic 36, 3) := by decide +kernel
theorem dX1_quotient_35 : decode cX1_quotient 35 = .ok (.lstore 10, 2) := by decide +kernel
theorem dX1_quotient_37 : decode cX1_quotient 37 = .ok (.lload 6, 2) := by decide +kernel
theorem dX1_quotient_39 : decode cX1_quotient 39 = .ok (.lload 10, 2) := by decide +kernel
theorem dX1_quotient_41 : decode cX1_quotient 41 = .ok (.lload 8, 2) := by decide +kernel
theorem dX1_quotient_43 : decode cX1_quotient 43 = .ok (.lmul, 1) := by decide +kernel
theorem dX1_quotient_44 : decode cX1_quotient 44 = .ok (.lsub, 1) := by decide +kernel
theorem dX1_quotient_45 : decode cX1_quotient 45 = .ok (.lstore 12, 2) := by decide +kernel
theorem dX1_quotient_47 : decode cX1_quotient 47 = .ok (.aload_n 0, 1) := by decide +kernel
theorem dX1_quotient_48 : decode cX1_quotient 48 = .ok (.lload 10, 2) := by decide +kernel
theorem dX1_quotient_50 : decode cX1_quotient 50 = .ok (.ldc2_w 40, 3) := by decide +kernel
theorem dX1_quotient_53 : decode cX1_quotient 53 = .ok (.lcmp, 1) := by decide +kernel
theorem dX1_quotient_54 : decode cX1_quotient 54 = .ok (.ifCond .gt 12, 3) := by decide +kernel
theorem dX1_quotient_57 : decode cX1_quotient 57 = .ok (.lload 10, 2) := by decide +kernel
theorem dX1_quotient_59 : decode cX1_quotient 59 = .ok (.ldc2_w 42, 3) := by decide +kernel
theorem dX1_quotient_62 : decode cX1_quotient 62 = .ok (.lcmp, 1) := by decide +kernel
theorem dX1_quotient_63 : decode cX1_quotient 63 = .ok (.ifCond .ge 7, 3) := by decide +kernel
theorem dX1_quotient_66 : decode cX1_quotient 66 = .ok (.iconst 1, 1) := by decide +kernel
theorem dX1_quotient_67 : decode cX1_quotient 67 = .ok (.goto 4, 3) := by decide +kernel
theorem dX1_quotient_70 : decode cX1_quotient 70 = .ok (.iconst 0, 1) := by decide +kernel
theorem dX1_quotient_71 : decode cX1_quotient 71 = .ok (.putfield 44, 3) := by decide +kernel
theorem dX1_quotient_74 : decode cX1_quotient 74 = .ok (.aload_n 0, 1) := by decide +kernel
theorem dX1_quotient_75 : decode cX1_quotient 75 = .ok (.getfield 44, 3) := by decide +kernel
theorem dX1_quotient_78 : decode cX1_quotient 78 = .ok (.ifCond .eq 5, 3) := by decide +kernel
theorem dX1_quotient_81 : decode cX1_quotient 81 = .ok (.lconst 0, 1) := by decide +kernel
theorem dX1_quotient_82 : decode cX1_quotient 82 = .ok (.lreturn, 1) := by decide +kernel
theorem dX1_quotient_83 : decode cX1_quotient 83 = .ok (.iconst 0, 1) := by decide +kernel
theorem dX1_quotient_84 : decode cX1_quotient 84 = .ok (.istore 14, 2) := by decide +kernel
theorem dX1_quotient_86 : decode cX1_quotient 86 = .ok (.iload 14, 2) := by decide +kernel
theorem dX1_quotient_88 : decode cX1_quotient 88 = .ok (.iload 5, 2) := by decide +kernel
theorem dX1_quotient_90 : decode cX1_quotient 90 = .ok (.if_icmp .ge 69, 3) := by decide +kernel
theorem dX1_quotient_93 : decode cX1_quotient 93 = .ok (.lload 12, 2) := by decide +kernel
theorem dX1_quotient_95 : decode cX1_quotient 95 = .ok (.lload 8, 2) := by decide +kernel
theorem dX1_quotient_97 : decode cX1_quotient 97 = .ok (.lload 12, 2) := by decide +kernel
theorem dX1_quotient_99 : decode cX1_quotient 99 = .ok (.lsub, 1) := by decide +kernel
theorem dX1_quotient_100 : decode cX1_quotient 100 = .ok (.lcmp, 1) := by decide +kernel
theorem dX1_quotient_101 : decode cX1_quotient 101 = .ok (.ifCond .lt 7, 3) := by decide +kernel
theorem dX1_quotient_104 : decode cX1_quotient 104 = .ok (.iconst 1, 1) := by decide +kernel
theorem dX1_quotient_105 : decode cX1_quotient 105 = .ok (.goto 4, 3) := by decide +kernel
theorem dX1_quotient_108 : decode cX1_quotient 108 = .ok (.iconst 0, 1) := by decide +kernel
theorem dX1_quotient_109 : decode cX1_quotient 109 = .ok (.istore 15, 2) := by decide +kernel
theorem dX1_quotient_111 : decode cX1_quotient 111 = .ok (.ldc2_w 48, 3) := by decide +kernel
theorem dX1_quotient_114 : decode cX1_quotient 114 = .ok (.lload 10, 2) := by decide +kernel
theorem dX1_quotient_116 : decode cX1_quotient 116 = .ok (.lmul, 1) := by decide +kernel
theorem dX1_quotient_117 : decode cX1_quotient 117 = .ok (.iload 15, 2) := by decide +kernel
theorem dX1_quotient_119 : decode cX1_quotient 119 = .ok (.ifCond .eq 7, 3) := by decide +kernel
theorem dX1_quotient_122 : decode cX1_quotient 122 = .ok (.lconst 1, 1) := by decide +kernel
theorem dX1_quotient_123 : decode cX1_quotient 123 = .ok (.goto 4, 3) := by decide +kernel
theorem dX1_quotient_126 : decode cX1_quotient 126 = .ok (.lconst 0, 1) := by decide +kernel
theorem dX1_quotient_127 : decode cX1_quotient 127 = .ok (.ladd, 1) := by decide +kernel
theorem dX1_quotient_128 : decode cX1_quotient 128 = .ok (.lstore 10, 2) := by decide +kernel
theorem dX1_quotient_130 : decode cX1_quotient 130 = .ok (.iload 15, 2) := by decide +kernel
theorem dX1_quotient_132 : decode cX1_quotient 132 = .ok (.ifCond .eq 14, 3) := by decide +kernel
theorem dX1_quotient_135 : decode cX1_quotient 135 = .ok (.lload 12, 2) := by decide +kernel
theorem dX1_quotient_137 : decode cX1_quotient 137 = .ok (.lload 8, 2) := by decide +kernel
theorem dX1_quotient_139 : decode cX1_quotient 139 = .ok (.lload 12, 2) := by decide +kernel
theorem dX1_quotient_141 : decode cX1_quotient 141 = .ok (.lsub, 1) := by decide +kernel
theorem dX1_quotient_142 : decode cX1_quotient 142 = .ok (.lsub, 1) := by decide +kernel
theorem dX1_quotient_143 : decode cX1_quotient 143 = .ok (.goto 8, 3) := by decide +kernel
theorem dX1_quotient_146 : decode cX1_quotient 146 = .ok (.lload 12, 2) := by decide +kernel
theorem dX1_quotient_148 : decode cX1_quotient 148 = .ok (.lload 12, 2) := by decide +kernel
theorem dX1_quotient_150 : decode cX1_quotient 150 = .ok (.ladd, 1) := by decide +kernel
theorem dX1_quotient_151 : decode cX1_quotient 151 = .ok (.lstore 12, 2) := by decide +kernel
theorem dX1_quotient_153 : decode cX1_quotient 153 = .ok (.iinc 14 1, 3) := by decide +kernel
theorem dX1_quotient_156 : decode cX1_quotient 156 = .ok (.goto (-70), 3) := by decide +kernel
theorem dX1_quotient_159 : decode cX1_quotient 159 = .ok (.lload 12, 2) := by decide +kernel
theorem dX1_quotient_161 : decode cX1_quotient 161 = .ok (.lload 8, 2) := by decide +kernel
theorem dX1_quotient_163 : decode cX1_quotient 163 = .ok (.lload 12, 2) := by decide +kernel
theorem dX1_quotient_165 : decode cX1_quotient 165 = .ok (.lsub, 1) := by decide +kernel
theorem dX1_quotient_166 : decode cX1_quotient 166 = .ok (.lcmp, 1) := by decide +kernel
theorem dX1_quotient_167 : decode cX1_quotient 167 = .ok (.ifCond .lt 10, 3) := by decide +kernel
theorem dX1_quotient_170 : decode cX1_quotient 170 = .ok (.lload 10, 2) := by decide +kernel
theorem dX1_quotient_172 : decode cX1_quotient 172 = .ok (.lconst 1, 1) := by decide +kernel
theorem dX1_quotient_173 : decode cX1_quotient 173 = .ok (.ladd, 1) := by decide +kernel
theorem dX1_quotient_174 : decode cX1_quotient 174 = .ok (.goto 5, 3) := by decide +kernel
theorem dX1_quotient_177 : decode cX1_quotient 177 = .ok (.lload 10, 2) := by decide +kernel
theorem dX1_quotient_179 : decode cX1_quotient 179 = .ok (.lreturn, 1) := by decide +kernel
set_option maxRecDepth 20000 in
theorem ggX1_two_X1_isValue : GoodIn wsX1_two wsX1_isValue := goodIn_r _ [5, 6] (by decide +kernel) (by decide +kernel)
set_option maxRecDepth 20000 in
theorem gX1_two_X1_isValue : GoodIn wsX1_two (va_wsS RX1 50 yX1_isValue wsX1_isValue) := goodIn_app (goodIn_of _ (by decide +kernel)) ggX1_two_X1_isValue
set_option maxRecDepth 20000 in
theorem ggX1_two_X1_onWholes : GoodIn wsX1_two wsX1_onWholes := goodIn_r _ [10, 11, 12, 13, 4, 14, 15, 16, 17, 18, 19, 20, 21, 67, 68, 69, 70, 71, 72, 73] (by decide +kernel) (by decide +kernel)
set_option maxRecDepth 20000 in
theorem gX1_two_X1_onWholes : GoodIn wsX1_two (wsV RX1 54 RX1 yX1_onWholes wsX1_onWholes) := goodIn_app (goodIn_of _ (by decide +kernel)) ggX1_two_X1_onWholes
set_option maxRecDepth 20000 in
theorem ggX1_two_X1_whole : GoodIn wsX1_two wsX1_whole := goodIn_r _ [14, 15, 16, 17, 18, 67, 68, 69, 70, 71, 72, 73] (by decide +kernel) (by decide +kernel)
set_option maxRecDepth 20000 in
theorem gX1_two_X1_whole : GoodIn wsX1_two (wsV RX1 58 RX1 yX1_whole wsX1_whole) := goodIn_app (goodIn_of _ (by decide +kernel)) ggX1_two_X1_whole
set_option maxRecDepth 20000 in
theorem ggX1_two_X1_hasUnits : GoodIn wsX1_two wsX1_hasUnits := goodIn_r _ [24] (by decide +kernel) (by decide +kernel)
set_option maxRecDepth 20000 in
theorem gX1_two_X1_hasUnits : GoodIn wsX1_two (va_wsS RX1 62 yX1_hasUnits wsX1_hasUnits) := goodIn_app (goodIn_of _ (by decide +kernel)) ggX1_two_X1_hasUnits
set_option maxRecDepth 20000 in
theorem ggX1_two_X1_units : GoodIn wsX1_two wsX1_units := goodIn_r _ [27, 28] (by decide +kernel) (by decide +kernel)
set_option maxRecDepth 20000 in
theorem gX1_two_X1_units : GoodIn wsX1_two (va_wsS RX1 65 yX1_units wsX1_units) := goodIn_app (goodIn_of _ (by decide +kernel)) ggX1_two_X1_units
set_option maxRecDepth 20000 in
theorem ggX1_two_X1_real : GoodIn wsX1_two wsX1_real := goodIn_r _ [32, 15, 33, 17, 18, 67, 68, 69, 70, 71, 72, 73] (by decide +kernel) (by decide +kernel)
set_option maxRecDepth 20000 in
theorem gX1_two_X1_real : GoodIn wsX1_two (wsV RX1 69 RX1 yX1_real wsX1_real) := goodIn_app (goodIn_of _ (by decide +kernel)) ggX1_two_X1_real
set_option maxRecDepth 20000 in
theorem ggX1_two_X1_rounded : GoodIn wsX1_two wsX1_rounded := goodIn_r _ [36, 37, 28, 38, 39, 4, 40] (by decide +kernel) (by decide +kernel)
set_option maxRecDepth 20000 in
theorem gX1_two_X1_rounded : GoodIn wsX1_two (va_wsS RX1 72 yX1_rounded wsX1_rounded) := goodIn_app (goodIn_of _ (by decide +kernel)) ggX1_two_X1_rounded
set_option maxRecDepth 20000 in
theorem ggX1_two_X1_quotient : GoodIn wsX1_two wsX1_quotient := goodIn_r _ [44, 45, 46, 1, 47, 38, 39, 4, 40, 67, 68, 69, 70, 71, 72, 73] (by decide +kernel) (by decide +kernel)
set_option maxRecDepth 20000 in
theorem gX1_two_X1_quotient : GoodIn wsX1_two (wsV RX1 76 RX1 yX1_quotient wsX1_quotient) := goodIn_app (goodIn_of _ (by decide +kernel)) ggX1_two_X1_quotient
set_option maxRecDepth 20000 in
theorem ggX1_two_X1_angle : GoodIn wsX1_two wsX1_angle := goodIn_r _ [50, 51, 47, 52, 53, 54, 55, 4, 56, 28, 57, 58, 59, 60, 61, 62, 38, 39, 40, 63, 64, 65, 66, 34, 35, 36, 37] (by decide +kernel) (by decide +kernel)
set_option maxRecDepth 20000 in
theorem gX1_two_X1_angle : GoodIn wsX1_two (va_wsS RX1 80 yX1_angle wsX1_angle) := goodIn_app (goodIn_of _ (by decide +kernel)) ggX1_two_X1_angle
theorem dX1_two_0 : decode cX1_two 0 = .ok (.iload_n 1, 1) := by decide +kernel
theorem dX1_two_1 : decode cX1_two 1 = .ok (.ifCond .lt 27, 3) := by decide +kernel
theorem dX1_two_4 : decode cX1_two 4 = .ok (.iload_n 1, 1) := by decide +kernel
theorem dX1_two_5 : decode cX1_two 5 = .ok (.bipush 10, 2) := by decide +kernel
theorem dX1_two_7 : decode cX1_two 7 = .ok (.if_icmp .gt 21, 3) := by decide +kernel
theorem dX1_two_10 : decode cX1_two 10 = .ok (.iload_n 2, 1) := by decide +kernel
theorem dX1_two_11 : decode cX1_two 11 = .ok (.iload_n 3, 1) := by decide +kernel
theorem dX1_two_12 : decode cX1_two 12 = .ok (.invokestatic 50, 3) := by decide +kernel
theorem dX1_two_15 : decode cX1_two 15 = .ok (.ifCond .eq 13, 3) := by decide +kernel
theorem dX1_two_18 : decode cX1_two 18 = .ok (.iload 4, 2) := by decide +kernel
theorem dX1_two_20 : decode cX1_two 20 = .ok (.iload 5, 2) := by decide +kernel
theorem dX1_two_22 : decode cX1_two 22 = .ok (.invokestatic 50, 3) := by decide +kernel
theorem dX1_two_25 : decode cX1_two 25 = .ok (.ifCond .ne 5, 3) := by decide +kernel
theorem dX1_two_28 : decode cX1_two 28 = .ok (.iconst (-1), 1) := by decide +kernel
theorem dX1_two_29 : decode cX1_two 29 = .ok (.ireturn, 1) := by decide +kernel
theorem dX1_two_30 : decode cX1_two 30 = .ok (.iload_n 2, 1) := by decide +kernel
theorem dX1_two_31 : decode cX1_two 31 = .ok (.iconst 1, 1) := by decide +kernel
theorem dX1_two_32 : decode cX1_two 32 = .ok (.if_icmp .ne 13, 3) := by decide +kernel
theorem dX1_two_35 : decode cX1_two 35 = .ok (.iload 4, 2) := by decide +kernel
theorem dX1_two_37 : decode cX1_two 37 = .ok (.iconst 1, 1) := by decide +kernel
theorem dX1_two_38 : decode cX1_two 38 = .ok (.if_icmp .ne 7, 3) := by decide +kernel
theorem dX1_two_41 : decode cX1_two 41 = .ok (.iconst 1, 1) := by decide +kernel
theorem dX1_two_42 : decode cX1_two 42 = .ok (.goto 4, 3) := by decide +kernel
theorem dX1_two_45 : decode cX1_two 45 = .ok (.iconst 0, 1) := by decide +kernel
theorem dX1_two_46 : decode cX1_two 46 = .ok (.istore 6, 2) := by decide +kernel
theorem dX1_two_48 : decode cX1_two 48 = .ok (.iload_n 1, 1) := by decide +kernel
theorem dX1_two_49 : decode cX1_two 49 = .ok (.iconst 4, 1) := by decide +kernel
theorem dX1_two_50 : decode cX1_two 50 = .ok (.if_icmp .eq 14, 3) := by decide +kernel
theorem dX1_two_53 : decode cX1_two 53 = .ok (.iload_n 1, 1) := by decide +kernel
theorem dX1_two_54 : decode cX1_two 54 = .ok (.iconst 5, 1) := by decide +kernel
theorem dX1_two_55 : decode cX1_two 55 = .ok (.if_icmp .eq 9, 3) := by decide +kernel
theorem dX1_two_58 : decode cX1_two 58 = .ok (.iload_n 1, 1) := by decide +kernel
theorem dX1_two_59 : decode cX1_two 59 = .ok (.bipush 6, 2) := by decide +kernel
theorem dX1_two_61 : decode cX1_two 61 = .ok (.if_icmp .le 22, 3) := by decide +kernel
theorem dX1_two_64 : decode cX1_two 64 = .ok (.iload 6, 2) := by decide +kernel
theorem dX1_two_66 : decode cX1_two 66 = .ok (.ifCond .eq 14, 3) := by decide +kernel
theorem dX1_two_69 : decode cX1_two 69 = .ok (.aload_n 0, 1) := by decide +kernel
theorem dX1_two_70 : decode cX1_two 70 = .ok (.iload_n 1, 1) := by decide +kernel
theorem dX1_two_71 : decode cX1_two 71 = .ok (.iload_n 3, 1) := by decide +kernel
theorem dX1_two_72 : decode cX1_two 72 = .ok (.iload 5, 2) := by decide +kernel
theorem dX1_two_74 : decode cX1_two 74 = .ok (.invokevirtual 54, 3) := by decide +kernel
theorem dX1_two_77 : decode cX1_two 77 = .ok (.goto 5, 3) := by decide +kernel
theorem dX1_two_80 : decode cX1_two 80 = .ok (.bipush (-4), 2) := by decide +kernel
theorem dX1_two_82 : decode cX1_two 82 = .ok (.ireturn, 1) := by decide +kernel
theorem dX1_two_83 : decode cX1_two 83 = .ok (.iload 6, 2) := by decide +kernel
theorem dX1_two_85 : decode cX1_two 85 = .ok (.ifCond .eq 46, 3) := by decide +kernel
theorem dX1_two_88 : decode cX1_two 88 = .ok (.iload_n 1, 1) := by decide +kernel
theorem dX1_two_89 : decode cX1_two 89 = .ok (.iconst 3, 1) := by decide +kernel
theorem dX1_two_90 : decode cX1_two 90 = .ok (.if_icmp .ge 41, 3) := by decide +kernel
theorem dX1_two_93 : decode cX1_two 93 = .ok (.aload_n 0, 1) := by decide +kernel
theorem dX1_two_94 : decode cX1_two 94 = .ok (.iload_n 1, 1) := by decide +kernel
theorem dX1_two_95 : decode cX1_two 95 = .ok (.ifCond .ne 12, 3) := by decide +kernel
theorem dX1_two_98 : decode cX1_two 98 = .ok (.iload_n 3, 1) := by decide +kernel
theorem dX1_two_99 : decode cX1_two 99 = .ok (.i2l, 1) := by decide +kernel
theorem dX1_two_100 : decode cX1_two 100 = .ok (.iload 5, 2) := by decide +kernel
theorem dX1_two_102 : decode cX1_two 102 = .ok (.i2l, 1) := by decide +kernel
theorem dX1_two_103 : decode cX1_two 103 = .ok (.ladd, 1) := by decide +kernel
theorem dX1_two_104 : decode cX1_two 104 = .ok (.goto 23, 3) := by decide +kernel
theorem dX1_two_107 : decode cX1_two 107 = .ok (.iload_n 1, 1) := by decide +kernel
theorem dX1_two_108 : decode cX1_two 108 = .ok (.iconst 1, 1) := by decide +kernel
theorem dX1_two_109 : decode cX1_two 109 = .ok (.if_icmp .ne 12, 3) := by decide +kernel
theorem dX1_two_112 : decode cX1_two 112 = .ok (.iload_n 3, 1) := by decide +kernel
theorem dX1_two_113 : decode cX1_two 113 = .ok (.i2l, 1) := by decide +kernel
theorem dX1_two_114 : decode cX1_two 114 = .ok (.iload 5, 2) := by decide +kernel
theorem dX1_two_116 : decode cX1_two 116 = .ok (.i2l, 1) := by decide +kernel
theorem dX1_two_117 : decode cX1_two 117 = .ok (.lsub, 1) := by decide +kernel
theorem dX1_two_118 : decode cX1_two 118 = .ok (.goto 9, 3) := by decide +kernel
theorem dX1_two_121 : decode cX1_two 121 = .ok (.iload_n 3, 1) := by decide +kernel
theorem dX1_two_122 : decode cX1_two 122 = .ok (.i2l, 1) := by decide +kernel
theorem dX1_two_123 : decode cX1_two 123 = .ok (.iload 5, 2) := by decide +kernel
theorem dX1_two_125 : decode cX1_two 125 = .ok (.i2l, 1) := by decide +kernel
theorem dX1_two_126 : decode cX1_two 126 = .ok (.lmul, 1) := by decide +kernel
theorem dX1_two_127 : decode cX1_two 127 = .ok (.invokevirtual 58, 3) := by decide +kernel
theorem dX1_two_130 : decode cX1_two 130 = .ok (.ireturn, 1) := by decide +kernel
theorem dX1_two_131 : decode cX1_two 131 = .ok (.iload_n 2, 1) := by decide +kernel
theorem dX1_two_132 : decode cX1_two 132 = .ok (.iload_n 3, 1) := by decide +kernel
theorem dX1_two_133 : decode cX1_two 133 = .ok (.invokestatic 62, 3) := by decide +kernel
theorem dX1_two_136 : decode cX1_two 136 = .ok (.ifCond .eq 13, 3) := by decide +kernel
theorem dX1_two_139 : decode cX1_two 139 = .ok (.iload 4, 2) := by decide +kernel
theorem dX1_two_141 : decode cX1_two 141 = .ok (.iload 5, 2) := by decide +kernel
theorem dX1_two_143 : decode cX1_two 143 = .ok (.invokestatic 62, 3) := by decide +kernel
theorem dX1_two_146 : decode cX1_two 146 = .ok (.ifCond .ne 6, 3) := by decide +kernel
theorem dX1_two_149 : decode cX1_two 149 = .ok (.bipush (-2), 2) := by decide +kernel
theorem dX1_two_151 : decode cX1_two 151 = .ok (.ireturn, 1) := by decide +kernel
theorem dX1_two_152 : decode cX1_two 152 = .ok (.iload_n 2, 1) := by decide +kernel
theorem dX1_two_153 : decode cX1_two 153 = .ok (.iload_n 3, 1) := by decide +kernel
theorem dX1_two_154 : decode cX1_two 154 = .ok (.invokestatic 65, 3) := by decide +kernel
theorem dX1_two_157 : decode cX1_two 157 = .ok (.lstore 7, 2) := by decide +kernel
theorem dX1_two_159 : decode cX1_two 159 = .ok (.iload 4, 2) := by decide +kernel
theorem dX1_two_161 : decode cX1_two 161 = .ok (.iload 5, 2) := by decide +kernel
theorem dX1_two_163 : decode cX1_two 163 = .ok (.invokestatic 65, 3) := by decide +kernel
theorem dX1_two_166 : decode cX1_two 166 = .ok (.lstore 9, 2) := by decide +kernel
theorem dX1_two_168 : decode cX1_two 168 = .ok (.iload_n 1, 1) := by decide +kernel
theorem dX1_two_169 : decode cX1_two 169 = .ok (.tableswitch 105 0 3 #[31, 41, 51, 64], 31) := by decide +kernel
theorem dX1_two_200 : decode cX1_two 200 = .ok (.aload_n 0, 1) := by decide +kernel
theorem dX1_two_201 : decode cX1_two 201 = .ok (.lload 7, 2) := by decide +kernel
theorem dX1_two_203 : decode cX1_two 203 = .ok (.lload 9, 2) := by decide +kernel
theorem dX1_two_205 : decode cX1_two 205 = .ok (.ladd, 1) := by decide +kernel
theorem dX1_two_206 : decode cX1_two 206 = .ok (.invokevirtual 69, 3) := by decide +kernel
theorem dX1_two_209 : decode cX1_two 209 = .ok (.ireturn, 1) := by decide +kernel
theorem dX1_two_210 : decode cX1_two 210 = .ok (.aload_n 0, 1) := by decide +kernel
theorem dX1_two_211 : decode cX1_two 211 = .ok (.lload 7, 2) := by decide +kernel
theorem dX1_two_213 : decode cX1_two 213 = .ok (.lload 9, 2) := by decide +kernel
theorem dX1_two_215 : decode cX1_two 215 = .ok (.lsub, 1) := by decide +kernel
theorem dX1_two_216 : decode cX1_two 216 = .ok (.invokevirtual 69, 3) := by decide +kernel
theorem dX1_two_219 : decode cX1_two 219 = .ok (.ireturn, 1) := by decide +kernel
theorem dX1_two_220 : decode cX1_two 220 = .ok (.aload_n 0, 1) := by decide +kernel
theorem dX1_two_221 : decode cX1_two 221 = .ok (.lload 7, 2) := by decide +kernel
theorem dX1_two_223 : decode cX1_two 223 = .ok (.lload 9, 2) := by decide +kernel
theorem dX1_two_225 : decode cX1_two 225 = .ok (.lmul, 1) := by decide +kernel
theorem dX1_two_226 : decode cX1_two 226 = .ok (.invokestatic 72, 3) := by decide +kernel
theorem dX1_two_229 : decode cX1_two 229 = .ok (.invokevirtual 69, 3) := by decide +kernel
theorem dX1_two_232 : decode cX1_two 232 = .ok (.ireturn, 1) := by decide +kernel
theorem dX1_two_233 : decode cX1_two 233 = .ok (.lload 9, 2) := by decide +kernel
theorem dX1_two_235 : decode cX1_two 235 = .ok (.lconst 0, 1) := by decide +kernel
theorem dX1_two_236 : decode cX1_two 236 = .ok (.lcmp, 1) := by decide +kernel
theorem dX1_two_237 : decode cX1_two 237 = .ok (.ifCond .ne 6, 3) := by decide +kernel
theorem dX1_two_240 : decode cX1_two 240 = .ok (.bipush (-3), 2) := by decide +kernel
theorem dX1_two_242 : decode cX1_two 242 = .ok (.ireturn, 1) := by decide +kernel
theorem dX1_two_243 : decode cX1_two 243 = .ok (.aload_n 0, 1) := by decide +kernel
theorem dX1_two_244 : decode cX1_two 244 = .ok (.lload 7, 2) := by decide +kernel
theorem dX1_two_246 : decode cX1_two 246 = .ok (.lload 9, 2) := by decide +kernel
theorem dX1_two_248 : decode cX1_two 248 = .ok (.bipush 16, 2) := by decide +kernel
theorem dX1_two_250 : decode cX1_two 250 = .ok (.invokevirtual 76, 3) := by decide +kernel
theorem dX1_two_253 : decode cX1_two 253 = .ok (.lstore 11, 2) := by decide +kernel
theorem dX1_two_255 : decode cX1_two 255 = .ok (.aload_n 0, 1) := by decide +kernel
theorem dX1_two_256 : decode cX1_two 256 = .ok (.getfield 44, 3) := by decide +kernel
theorem dX1_two_259 : decode cX1_two 259 = .ok (.ifCond .eq 8, 3) := by decide +kernel
theorem dX1_two_262 : decode cX1_two 262 = .ok (.bipush (-2), 2) := by decide +kernel
theorem dX1_two_264 : decode cX1_two 264 = .ok (.goto 9, 3) := by decide +kernel
theorem dX1_two_267 : decode cX1_two 267 = .ok (.aload_n 0, 1) := by decide +kernel
theorem dX1_two_268 : decode cX1_two 268 = .ok (.lload 11, 2) := by decide +kernel
theorem dX1_two_270 : decode cX1_two 270 = .ok (.invokevirtual 69, 3) := by decide +kernel
theorem dX1_two_273 : decode cX1_two 273 = .ok (.ireturn, 1) := by decide +kernel
theorem dX1_two_274 : decode cX1_two 274 = .ok (.lload 7, 2) := by decide +kernel
theorem dX1_two_276 : decode cX1_two 276 = .ok (.lconst 0, 1) := by decide +kernel
theorem dX1_two_277 : decode cX1_two 277 = .ok (.lcmp, 1) := by decide +kernel
theorem dX1_two_278 : decode cX1_two 278 = .ok (.ifCond .ne 15, 3) := by decide +kernel
theorem dX1_two_281 : decode cX1_two 281 = .ok (.lload 9, 2) := by decide +kernel
theorem dX1_two_283 : decode cX1_two 283 = .ok (.lconst 0, 1) := by decide +kernel
theorem dX1_two_284 : decode cX1_two 284 = .ok (.lcmp, 1) := by decide +kernel
theorem dX1_two_285 : decode cX1_two 285 = .ok (.ifCond .ne 8, 3) := by decide +kernel
theorem dX1_two_288 : decode cX1_two 288 = .ok (.bipush (-3), 2) := by decide +kernel
theorem dX1_two_290 : decode cX1_two 290 = .ok (.goto 14, 3) := by decide +kernel
theorem dX1_two_293 : decode cX1_two 293 = .ok (.aload_n 0, 1) := by decide +kernel
theorem dX1_two_294 : decode cX1_two 294 = .ok (.lload 9, 2) := by decide +kernel
theorem dX1_two_296 : decode cX1_two 296 = .ok (.lload 7, 2) := by decide +kernel
theorem dX1_two_298 : decode cX1_two 298 = .ok (.invokestatic 80, 3) := by decide +kernel
theorem dX1_two_301 : decode cX1_two 301 = .ok (.invokevirtual 69, 3) := by decide +kernel
theorem dX1_two_304 : decode cX1_two 304 = .ok (.ireturn, 1) := by decide +kernel
set_option maxRecDepth 20000 in
theorem ggX1_onWholes_X1_whole : GoodIn wsX1_onWholes wsX1_whole := goodIn_r _ [5, 6, 7, 8, 9, 13, 14, 15, 16, 17, 18, 19] (by decide +kernel) (by decide +kernel)
set_option maxRecDepth 20000 in
theorem gX1_onWholes_X1_whole : GoodIn wsX1_onWholes (wsV RX1 58 RX1 yX1_whole wsX1_whole) := goodIn_app (goodIn_of _ (by decide +kernel)) ggX1_onWholes_X1_whole
set_option maxRecDepth 20000 in
theorem ggX1_onWholes_X1_shifted : GoodIn wsX1_onWholes wsX1_shifted := goodIn_r _ [12] (by decide +kernel) (by decide +kernel)
set_option maxRecDepth 20000 in
theorem gX1_onWholes_X1_shifted : GoodIn wsX1_onWholes (va_wsS RX1 83 yX1_shifted wsX1_shifted) := goodIn_app (goodIn_of _ (by decide +kernel)) ggX1_onWholes_X1_shifted
theorem dX1_onWholes_0 : decode cX1_onWholes 0 = .ok (.iload_n 1, 1) := by decide +kernel
theorem dX1_onWholes_1 : decode cX1_onWholes 1 = .ok (.tableswitch 104 4 9 #[39, 58, 104, 77, 86, 95], 39) := by decide +kernel
theorem dX1_onWholes_40 : decode cX1_onWholes 40 = .ok (.iload_n 3, 1) := by decide +kernel
theorem dX1_onWholes_41 : decode cX1_onWholes 41 = .ok (.ifCond .ne 8, 3) := by decide +kernel
theorem dX1_onWholes_44 : decode cX1_onWholes 44 = .ok (.bipush (-3), 2) := by decide +kernel
theorem dX1_onWholes_46 : decode cX1_onWholes 46 = .ok (.goto 12, 3) := by decide +kernel
theorem dX1_onWholes_49 : decode cX1_onWholes 49 = .ok (.aload_n 0, 1) := by decide +kernel
theorem dX1_onWholes_50 : decode cX1_onWholes 50 = .ok (.iload_n 2, 1) := by decide +kernel
theorem dX1_onWholes_51 : decode cX1_onWholes 51 = .ok (.i2l, 1) := by decide +kernel
theorem dX1_onWholes_52 : decode cX1_onWholes 52 = .ok (.iload_n 3, 1) := by decide +kernel
theorem dX1_onWholes_53 : decode cX1_onWholes 53 = .ok (.i2l, 1) := by decide +kernel
theorem dX1_onWholes_54 : decode cX1_onWholes 54 = .ok (.ldiv, 1) := by decide +kernel
theorem dX1_onWholes_55 : decode cX1_onWholes 55 = .ok (.invokevirtual 58, 3) := by decide +kernel
theorem dX1_onWholes_58 : decode cX1_onWholes 58 = .ok (.ireturn, 1) := by decide +kernel
theorem dX1_onWholes_59 : decode cX1_onWholes 59 = .ok (.iload_n 3, 1) := by decide +kernel
theorem dX1_onWholes_60 : decode cX1_onWholes 60 = .ok (.ifCond .ne 8, 3) := by decide +kernel
theorem dX1_onWholes_63 : decode cX1_onWholes 63 = .ok (.bipush (-3), 2) := by decide +kernel
theorem dX1_onWholes_65 : decode cX1_onWholes 65 = .ok (.goto 12, 3) := by decide +kernel
theorem dX1_onWholes_68 : decode cX1_onWholes 68 = .ok (.aload_n 0, 1) := by decide +kernel
theorem dX1_onWholes_69 : decode cX1_onWholes 69 = .ok (.iload_n 2, 1) := by decide +kernel
theorem dX1_onWholes_70 : decode cX1_onWholes 70 = .ok (.i2l, 1) := by decide +kernel
theorem dX1_onWholes_71 : decode cX1_onWholes 71 = .ok (.iload_n 3, 1) := by decide +kernel
theorem dX1_onWholes_72 : decode cX1_onWholes 72 = .ok (.i2l, 1) := by decide +kernel
theorem dX1_onWholes_73 : decode cX1_onWholes 73 = .ok (.lrem, 1) := by decide +kernel
theorem dX1_onWholes_74 : decode cX1_onWholes 74 = .ok (.invokevirtual 58, 3) := by decide +kernel
theorem dX1_onWholes_77 : decode cX1_onWholes 77 = .ok (.ireturn, 1) := by decide +kernel
theorem dX1_onWholes_78 : decode cX1_onWholes 78 = .ok (.aload_n 0, 1) := by decide +kernel
theorem dX1_onWholes_79 : decode cX1_onWholes 79 = .ok (.iload_n 2, 1) := by decide +kernel
theorem dX1_onWholes_80 : decode cX1_onWholes 80 = .ok (.iload_n 3, 1) := by decide +kernel
theorem dX1_onWholes_81 : decode cX1_onWholes 81 = .ok (.iand, 1) := by decide +kernel
theorem dX1_onWholes_82 : decode cX1_onWholes 82 = .ok (.i2l, 1) := by decide +kernel
theorem dX1_onWholes_83 : decode cX1_onWholes 83 = .ok (.invokevirtual 58, 3) := by decide +kernel
theorem dX1_onWholes_86 : decode cX1_onWholes 86 = .ok (.ireturn, 1) := by decide +kernel
theorem dX1_onWholes_87 : decode cX1_onWholes 87 = .ok (.aload_n 0, 1) := by decide +kernel
theorem dX1_onWholes_88 : decode cX1_onWholes 88 = .ok (.iload_n 2, 1) := by decide +kernel
theorem dX1_onWholes_89 : decode cX1_onWholes 89 = .ok (.iload_n 3, 1) := by decide +kernel
theorem dX1_onWholes_90 : decode cX1_onWholes 90 = .ok (.ior, 1) := by decide +kernel
theorem dX1_onWholes_91 : decode cX1_onWholes 91 = .ok (.i2l, 1) := by decide +kernel
theorem dX1_onWholes_92 : decode cX1_onWholes 92 = .ok (.invokevirtual 58, 3) := by decide +kernel
theorem dX1_onWholes_95 : decode cX1_onWholes 95 = .ok (.ireturn, 1) := by decide +kernel
theorem dX1_onWholes_96 : decode cX1_onWholes 96 = .ok (.aload_n 0, 1) := by decide +kernel
theorem dX1_onWholes_97 : decode cX1_onWholes 97 = .ok (.iload_n 2, 1) := by decide +kernel
theorem dX1_onWholes_98 : decode cX1_onWholes 98 = .ok (.iload_n 3, 1) := by decide +kernel
theorem dX1_onWholes_99 : decode cX1_onWholes 99 = .ok (.ixor, 1) := by decide +kernel
theorem dX1_onWholes_100 : decode cX1_onWholes 100 = .ok (.i2l, 1) := by decide +kernel
theorem dX1_onWholes_101 : decode cX1_onWholes 101 = .ok (.invokevirtual 58, 3) := by decide +kernel
theorem dX1_onWholes_104 : decode cX1_onWholes 104 = .ok (.ireturn, 1) := by decide +kernel
theorem dX1_onWholes_105 : decode cX1_onWholes 105 = .ok (.aload_n 0, 1) := by decide +kernel
theorem dX1_onWholes_106 : decode cX1_onWholes 106 = .ok (.iload_n 2, 1) := by decide +kernel
theorem dX1_onWholes_107 : decode cX1_onWholes 107 = .ok (.iload_n 3, 1) := by decide +kernel
theorem dX1_onWholes_108 : decode cX1_onWholes 108 = .ok (.invokestatic 83, 3) := by decide +kernel
theorem dX1_onWholes_111 : decode cX1_onWholes 111 = .ok (.i2l, 1) := by decide +kernel
theorem dX1_onWholes_112 : decode cX1_onWholes 112 = .ok (.invokevirtual 58, 3) := by decide +kernel
theorem dX1_onWholes_115 : decode cX1_onWholes 115 = .ok (.ireturn, 1) := by decide +kernel
theorem dX1_shifted_0 : decode cX1_shifted 0 = .ok (.iload_n 0, 1) := by decide +kernel
theorem dX1_shifted_1 : decode cX1_shifted 1 = .ok (.istore_n 2, 1) := by decide +kernel
theorem dX1_shifted_2 : decode cX1_shifted 2 = .ok (.iload_n 1, 1) := by decide +kernel
theorem dX1_shifted_3 : decode cX1_shifted 3 = .ok (.bipush 31, 2) := by decide +kernel
theorem dX1_shifted_5 : decode cX1_shifted 5 = .ok (.if_icmp .gt 9, 3) := by decide +kernel
theorem dX1_shifted_8 : decode cX1_shifted 8 = .ok (.iload_n 1, 1) := by decide +kernel
theorem dX1_shifted_9 : decode cX1_shifted 9 = .ok (.bipush (-31), 2) := by decide +kernel
theorem dX1_shifted_11 : decode cX1_shifted 11 = .ok (.if_icmp .ge 5, 3) := by decide +kernel
theorem dX1_shifted_14 : decode cX1_shifted 14 = .ok (.iconst 0, 1) := by decide +kernel
theorem dX1_shifted_15 : decode cX1_shifted 15 = .ok (.ireturn, 1) := by decide +kernel
theorem dX1_shifted_16 : decode cX1_shifted 16 = .ok (.iconst 0, 1) := by decide +kernel
theorem dX1_shifted_17 : decode cX1_shifted 17 = .ok (.istore_n 3, 1) := by decide +kernel
theorem dX1_shifted_18 : decode cX1_shifted 18 = .ok (.iload_n 3, 1) := by decide +kernel
theorem dX1_shifted_19 : decode cX1_shifted 19 = .ok (.iload_n 1, 1) := by decide +kernel
theorem dX1_shifted_20 : decode cX1_shifted 20 = .ok (.if_icmp .ge 13, 3) := by decide +kernel
theorem dX1_shifted_23 : decode cX1_shifted 23 = .ok (.iload_n 2, 1) := by decide +kernel
theorem dX1_shifted_24 : decode cX1_shifted 24 = .ok (.iload_n 2, 1) := by decide +kernel
theorem dX1_shifted_25 : decode cX1_shifted 25 = .ok (.iadd, 1) := by decide +kernel
theorem dX1_shifted_26 : decode cX1_shifted 26 = .ok (.istore_n 2, 1) := by decide +kernel
theorem dX1_shifted_27 : decode cX1_shifted 27 = .ok (.iinc 3 1, 3) := by decide +kernel
theorem dX1_shifted_30 : decode cX1_shifted 30 = .ok (.goto (-12), 3) := by decide +kernel
theorem dX1_shifted_33 : decode cX1_shifted 33 = .ok (.iconst 0, 1) := by decide +kernel
theorem dX1_shifted_34 : decode cX1_shifted 34 = .ok (.istore_n 3, 1) := by decide +kernel
theorem dX1_shifted_35 : decode cX1_shifted 35 = .ok (.iload_n 3, 1) := by decide +kernel
theorem dX1_shifted_36 : decode cX1_shifted 36 = .ok (.iload_n 1, 1) := by decide +kernel
theorem dX1_shifted_37 : decode cX1_shifted 37 = .ok (.if_icmp .le 13, 3) := by decide +kernel
theorem dX1_shifted_40 : decode cX1_shifted 40 = .ok (.iload_n 2, 1) := by decide +kernel
theorem dX1_shifted_41 : decode cX1_shifted 41 = .ok (.iconst 1, 1) := by decide +kernel
theorem dX1_shifted_42 : decode cX1_shifted 42 = .ok (.iushr, 1) := by decide +kernel
theorem dX1_shifted_43 : decode cX1_shifted 43 = .ok (.istore_n 2, 1) := by decide +kernel
theorem dX1_shifted_44 : decode cX1_shifted 44 = .ok (.iinc 3 (-1), 3) := by decide +kernel
theorem dX1_shifted_47 : decode cX1_shifted 47 = .ok (.goto (-12), 3) := by decide +kernel
theorem dX1_shifted_50 : decode cX1_shifted 50 = .ok (.iload_n 2, 1) := by decide +kernel
theorem dX1_shifted_51 : decode cX1_shifted 51 = .ok (.ireturn, 1) := by decide +kernel
set_option maxRecDepth 20000 in
theorem ggX1_one_X1_isValue : GoodIn wsX1_one wsX1_isValue := goodIn_r _ [5, 6] (by decide +kernel) (by decide +kernel)
set_option maxRecDepth 20000 in
theorem gX1_one_X1_isValue : GoodIn wsX1_one (va_wsS RX1 50 yX1_isValue wsX1_isValue) := goodIn_app (goodIn_of _ (by decide +kernel)) ggX1_one_X1_isValue
set_option maxRecDepth 20000 in
theorem ggX1_one_X1_whole : GoodIn wsX1_one wsX1_whole := goodIn_r _ [10, 11, 12, 13, 14, 54, 55, 56, 57, 58, 59, 60] (by decide +kernel) (by decide +kernel)
set_option maxRecDepth 20000 in
theorem gX1_one_X1_whole : GoodIn wsX1_one (wsV RX1 58 RX1 yX1_whole wsX1_whole) := goodIn_app (goodIn_of _ (by decide +kernel)) ggX1_one_X1_whole
set_option maxRecDepth 20000 in
theorem ggX1_one_X1_onWhole : GoodIn wsX1_one wsX1_onWhole := goodIn_r _ [18, 7, 8, 9, 4, 10, 11, 12, 13, 14, 54, 55, 56, 57, 58, 59, 60] (by decide +kernel) (by decide +kernel)
set_option maxRecDepth 20000 in
theorem gX1_one_X1_onWhole : GoodIn wsX1_one (wsV RX1 87 RX1 yX1_onWhole wsX1_onWhole) := goodIn_app (goodIn_of _ (by decide +kernel)) ggX1_one_X1_onWhole
set_option maxRecDepth 20000 in
theorem ggX1_one_X1_onReal : GoodIn wsX1_one wsX1_onReal := goodIn_r _ [22, 23, 24, 25, 4, 26, 27, 28, 29, 30, 11, 31, 13, 14, 32, 33, 34, 35, 7, 8, 9, 10, 12, 54, 55, 56, 57, 58, 59, 60] (by decide +kernel) (by decide +kernel)
set_option maxRecDepth 20000 in
theorem gX1_one_X1_onReal : GoodIn wsX1_one (wsV RX1 91 RX1 yX1_onReal wsX1_onReal) := goodIn_app (goodIn_of _ (by decide +kernel)) ggX1_one_X1_onReal
set_option maxRecDepth 20000 in
theorem ggX1_one_X1_hasUnits : GoodIn wsX1_one wsX1_hasUnits := goodIn_r _ [38] (by decide +kernel) (by decide +kernel)
set_option maxRecDepth 20000 in
theorem gX1_one_X1_hasUnits : GoodIn wsX1_one (va_wsS RX1 62 yX1_hasUnits wsX1_hasUnits) := goodIn_app (goodIn_of _ (by decide +kernel)) ggX1_one_X1_hasUnits
set_option maxRecDepth 20000 in
theorem ggX1_one_X1_units : GoodIn wsX1_one wsX1_units := goodIn_r _ [41, 23] (by decide +kernel) (by decide +kernel)
set_option maxRecDepth 20000 in
theorem gX1_one_X1_units : GoodIn wsX1_one (va_wsS RX1 65 yX1_units wsX1_units) := goodIn_app (goodIn_of _ (by decide +kernel)) ggX1_one_X1_units
set_option maxRecDepth 20000 in
theorem ggX1_one_X1_root : GoodIn wsX1_one wsX1_root := goodIn_r _ [44, 23] (by decide +kernel) (by decide +kernel)
set_option maxRecDepth 20000 in
theorem gX1_one_X1_root : GoodIn wsX1_one (va_wsS RX1 94 yX1_root wsX1_root) := goodIn_app (goodIn_of _ (by decide +kernel)) ggX1_one_X1_root
set_option maxRecDepth 20000 in
theorem ggX1_one_X1_real : GoodIn wsX1_one wsX1_real := goodIn_r _ [30, 11, 31, 13, 14, 54, 55, 56, 57, 58, 59, 60] (by decide +kernel) (by decide +kernel)
set_option maxRecDepth 20000 in
theorem gX1_one_X1_real : GoodIn wsX1_one (wsV RX1 69 RX1 yX1_real wsX1_real) := goodIn_app (goodIn_of _ (by decide +kernel)) ggX1_one_X1_real
set_option maxRecDepth 20000 in
theorem ggX1_one_X1_sine : GoodIn wsX1_one wsX1_sine := goodIn_r _ [47, 48, 49, 1, 24, 25, 4, 26, 50, 51, 52, 23, 53, 32, 33, 34, 35] (by decide +kernel) (by decide +kernel)
set_option maxRecDepth 20000 in
theorem gX1_one_X1_sine : GoodIn wsX1_one (va_wsS RX1 97 yX1_sine wsX1_sine) := goodIn_app (goodIn_of _ (by decide +kernel)) ggX1_one_X1_sine
theorem dX1_one_0 : decode cX1_one 0 = .ok (.iload_n 1, 1) := by decide +kernel
theorem dX1_one_1 : decode cX1_one 1 = .ok (.ifCond .lt 17, 3) := by decide +kernel
theorem dX1_one_4 : decode cX1_one 4 = .ok (.iload_n 1, 1) := by decide +kernel
theorem dX1_one_5 : decode cX1_one 5 = .ok (.bipush 11, 2) := by decide +kernel
theorem dX1_one_7 : decode cX1_one 7 = .ok (.if_icmp .gt 11, 3) := by decide +kernel
theorem dX1_one_10 : decode cX1_one 10 = .ok (.iload_n 2, 1) := by decide +kernel
theorem dX1_one_11 : decode cX1_one 11 = .ok (.iload_n 3, 1) := by decide +kernel
theorem dX1_one_12 : decode cX1_one 12 = .ok (.invokestatic 50, 3) := by decide +kernel
theorem dX1_one_15 : decode cX1_one 15 = .ok (.ifCond .ne 5, 3) := by decide +kernel
theorem dX1_one_18 : decode cX1_one 18 = .ok (.iconst (-1), 1) := by decide +kernel
theorem dX1_one_19 : decode cX1_one 19 = .ok (.ireturn, 1) := by decide +kernel
theorem dX1_one_20 : decode cX1_one 20 = .ok (.iload_n 1, 1) := by decide +kernel
theorem dX1_one_21 : decode cX1_one 21 = .ok (.bipush 11, 2) := by decide +kernel
theorem dX1_one_23 : decode cX1_one 23 = .ok (.if_icmp .ne 22, 3) := by decide +kernel
theorem dX1_one_26 : decode cX1_one 26 = .ok (.iload_n 2, 1) := by decide +kernel
theorem dX1_one_27 : decode cX1_one 27 = .ok (.iconst 2, 1) := by decide +kernel
theorem dX1_one_28 : decode cX1_one 28 = .ok (.if_icmp .ne 8, 3) := by decide +kernel
theorem dX1_one_31 : decode cX1_one 31 = .ok (.bipush (-4), 2) := by decide +kernel
theorem dX1_one_33 : decode cX1_one 33 = .ok (.goto 11, 3) := by decide +kernel
theorem dX1_one_36 : decode cX1_one 36 = .ok (.aload_n 0, 1) := by decide +kernel
theorem dX1_one_37 : decode cX1_one 37 = .ok (.iload_n 3, 1) := by decide +kernel
theorem dX1_one_38 : decode cX1_one 38 = .ok (.iconst (-1), 1) := by decide +kernel
theorem dX1_one_39 : decode cX1_one 39 = .ok (.ixor, 1) := by decide +kernel
theorem dX1_one_40 : decode cX1_one 40 = .ok (.i2l, 1) := by decide +kernel
theorem dX1_one_41 : decode cX1_one 41 = .ok (.invokevirtual 58, 3) := by decide +kernel
theorem dX1_one_44 : decode cX1_one 44 = .ok (.ireturn, 1) := by decide +kernel
theorem dX1_one_45 : decode cX1_one 45 = .ok (.iload_n 1, 1) := by decide +kernel
theorem dX1_one_46 : decode cX1_one 46 = .ok (.bipush 6, 2) := by decide +kernel
theorem dX1_one_48 : decode cX1_one 48 = .ok (.if_icmp .lt 9, 3) := by decide +kernel
theorem dX1_one_51 : decode cX1_one 51 = .ok (.iload_n 1, 1) := by decide +kernel
theorem dX1_one_52 : decode cX1_one 52 = .ok (.bipush 9, 2) := by decide +kernel
theorem dX1_one_54 : decode cX1_one 54 = .ok (.if_icmp .ne 26, 3) := by decide +kernel
theorem dX1_one_57 : decode cX1_one 57 = .ok (.iload_n 2, 1) := by decide +kernel
theorem dX1_one_58 : decode cX1_one 58 = .ok (.iconst 1, 1) := by decide +kernel
theorem dX1_one_59 : decode cX1_one 59 = .ok (.if_icmp .ne 13, 3) := by decide +kernel
theorem dX1_one_62 : decode cX1_one 62 = .ok (.aload_n 0, 1) := by decide +kernel
theorem dX1_one_63 : decode cX1_one 63 = .ok (.iload_n 1, 1) := by decide +kernel
theorem dX1_one_64 : decode cX1_one 64 = .ok (.iload_n 3, 1) := by decide +kernel
theorem dX1_one_65 : decode cX1_one 65 = .ok (.i2l, 1) := by decide +kernel
theorem dX1_one_66 : decode cX1_one 66 = .ok (.invokevirtual 87, 3) := by decide +kernel
theorem dX1_one_69 : decode cX1_one 69 = .ok (.goto 10, 3) := by decide +kernel
theorem dX1_one_72 : decode cX1_one 72 = .ok (.aload_n 0, 1) := by decide +kernel
theorem dX1_one_73 : decode cX1_one 73 = .ok (.iload_n 1, 1) := by decide +kernel
theorem dX1_one_74 : decode cX1_one 74 = .ok (.iload_n 3, 1) := by decide +kernel
theorem dX1_one_75 : decode cX1_one 75 = .ok (.i2l, 1) := by decide +kernel
theorem dX1_one_76 : decode cX1_one 76 = .ok (.invokevirtual 91, 3) := by decide +kernel
theorem dX1_one_79 : decode cX1_one 79 = .ok (.ireturn, 1) := by decide +kernel
theorem dX1_one_80 : decode cX1_one 80 = .ok (.iload_n 2, 1) := by decide +kernel
theorem dX1_one_81 : decode cX1_one 81 = .ok (.iload_n 3, 1) := by decide +kernel
theorem dX1_one_82 : decode cX1_one 82 = .ok (.invokestatic 62, 3) := by decide +kernel
theorem dX1_one_85 : decode cX1_one 85 = .ok (.ifCond .ne 6, 3) := by decide +kernel
theorem dX1_one_88 : decode cX1_one 88 = .ok (.bipush (-2), 2) := by decide +kernel
theorem dX1_one_90 : decode cX1_one 90 = .ok (.ireturn, 1) := by decide +kernel
theorem dX1_one_91 : decode cX1_one 91 = .ok (.iload_n 2, 1) := by decide +kernel
theorem dX1_one_92 : decode cX1_one 92 = .ok (.iload_n 3, 1) := by decide +kernel
theorem dX1_one_93 : decode cX1_one 93 = .ok (.invokestatic 65, 3) := by decide +kernel
theorem dX1_one_96 : decode cX1_one 96 = .ok (.lstore 4, 2) := by decide +kernel
theorem dX1_one_98 : decode cX1_one 98 = .ok (.iload_n 1, 1) := by decide +kernel
theorem dX1_one_99 : decode cX1_one 99 = .ok (.tableswitch 71 6 8 #[25, 47, 57], 25) := by decide +kernel
theorem dX1_one_124 : decode cX1_one 124 = .ok (.lload 4, 2) := by decide +kernel
theorem dX1_one_126 : decode cX1_one 126 = .ok (.lconst 0, 1) := by decide +kernel
theorem dX1_one_127 : decode cX1_one 127 = .ok (.lcmp, 1) := by decide +kernel
theorem dX1_one_128 : decode cX1_one 128 = .ok (.ifCond .ge 8, 3) := by decide +kernel
theorem dX1_one_131 : decode cX1_one 131 = .ok (.bipush (-3), 2) := by decide +kernel
theorem dX1_one_133 : decode cX1_one 133 = .ok (.goto 12, 3) := by decide +kernel
theorem dX1_one_136 : decode cX1_one 136 = .ok (.aload_n 0, 1) := by decide +kernel
theorem dX1_one_137 : decode cX1_one 137 = .ok (.lload 4, 2) := by decide +kernel
theorem dX1_one_139 : decode cX1_one 139 = .ok (.invokestatic 94, 3) := by decide +kernel
theorem dX1_one_142 : decode cX1_one 142 = .ok (.invokevirtual 69, 3) := by decide +kernel
theorem dX1_one_145 : decode cX1_one 145 = .ok (.ireturn, 1) := by decide +kernel
theorem dX1_one_146 : decode cX1_one 146 = .ok (.aload_n 0, 1) := by decide +kernel
theorem dX1_one_147 : decode cX1_one 147 = .ok (.lload 4, 2) := by decide +kernel
theorem dX1_one_149 : decode cX1_one 149 = .ok (.invokestatic 97, 3) := by decide +kernel
theorem dX1_one_152 : decode cX1_one 152 = .ok (.invokevirtual 69, 3) := by decide +kernel
theorem dX1_one_155 : decode cX1_one 155 = .ok (.ireturn, 1) := by decide +kernel
theorem dX1_one_156 : decode cX1_one 156 = .ok (.aload_n 0, 1) := by decide +kernel
theorem dX1_one_157 : decode cX1_one 157 = .ok (.lload 4, 2) := by decide +kernel
theorem dX1_one_159 : decode cX1_one 159 = .ok (.ldc2_w 100, 3) := by decide +kernel
theorem dX1_one_162 : decode cX1_one 162 = .ok (.ladd, 1) := by decide +kernel
theorem dX1_one_163 : decode cX1_one 163 = .ok (.invokestatic 97, 3) := by decide +kernel
theorem dX1_one_166 : decode cX1_one 166 = .ok (.invokevirtual 69, 3) := by decide +kernel
theorem dX1_one_169 : decode cX1_one 169 = .ok (.ireturn, 1) := by decide +kernel
theorem dX1_one_170 : decode cX1_one 170 = .ok (.aload_n 0, 1) := by decide +kernel
theorem dX1_one_171 : decode cX1_one 171 = .ok (.lload 4, 2) := by decide +kernel
theorem dX1_one_173 : decode cX1_one 173 = .ok (.invokevirtual 69, 3) := by decide +kernel
theorem dX1_one_176 : decode cX1_one 176 = .ok (.ireturn, 1) := by decide +kernel
set_option maxRecDepth 20000 in
theorem ggX1_onWhole_X1_whole : GoodIn wsX1_onWhole wsX1_whole := goodIn_r _ [5, 6, 7, 8, 9, 10, 11, 12, 13, 14, 15, 16] (by decide +kernel) (by decide +kernel)
set_option maxRecDepth 20000 in
theorem gX1_onWhole_X1_whole : GoodIn wsX1_onWhole (wsV RX1 58 RX1 yX1_whole wsX1_whole) := goodIn_app (goodIn_of _ (by decide +kernel)) ggX1_onWhole_X1_whole
theorem dX1_onWhole_0 : decode cX1_onWhole 0 = .ok (.aload_n 0, 1) := by decide +kernel
theorem dX1_onWhole_1 : decode cX1_onWhole 1 = .ok (.iload_n 1, 1) := by decide +kernel
theorem dX1_onWhole_2 : decode cX1_onWhole 2 = .ok (.ifCond .eq 14, 3) := by decide +kernel
theorem dX1_onWhole_5 : decode cX1_onWhole 5 = .ok (.iload_n 1, 1) := by decide +kernel
theorem dX1_onWhole_6 : decode cX1_onWhole 6 = .ok (.iconst 1, 1) := by decide +kernel
theorem dX1_onWhole_7 : decode cX1_onWhole 7 = .ok (.if_icmp .ne 14, 3) := by decide +kernel
theorem dX1_onWhole_10 : decode cX1_onWhole 10 = .ok (.lload_n 2, 1) := by decide +kernel
theorem dX1_onWhole_11 : decode cX1_onWhole 11 = .ok (.lconst 0, 1) := by decide +kernel
theorem dX1_onWhole_12 : decode cX1_onWhole 12 = .ok (.lcmp, 1) := by decide +kernel
theorem dX1_onWhole_13 : decode cX1_onWhole 13 = .ok (.ifCond .ge 8, 3) := by decide +kernel
theorem dX1_onWhole_16 : decode cX1_onWhole 16 = .ok (.lload_n 2, 1) := by decide +kernel
theorem dX1_onWhole_17 : decode cX1_onWhole 17 = .ok (.lneg, 1) := by decide +kernel
theorem dX1_onWhole_18 : decode cX1_onWhole 18 = .ok (.goto 4, 3) := by decide +kernel
theorem dX1_onWhole_21 : decode cX1_onWhole 21 = .ok (.lload_n 2, 1) := by decide +kernel
theorem dX1_onWhole_22 : decode cX1_onWhole 22 = .ok (.invokevirtual 58, 3) := by decide +kernel
theorem dX1_onWhole_25 : decode cX1_onWhole 25 = .ok (.ireturn, 1) := by decide +kernel
set_option maxRecDepth 20000 in
theorem ggX1_onReal_X1_down : GoodIn wsX1_onReal wsX1_down := goodIn_r _ [5] (by decide +kernel) (by decide +kernel)
set_option maxRecDepth 20000 in
theorem gX1_onReal_X1_down : GoodIn wsX1_onReal (va_wsS RX1 36 yX1_down wsX1_down) := goodIn_app (goodIn_of _ (by decide +kernel)) ggX1_onReal_X1_down
set_option maxRecDepth 20000 in
theorem ggX1_onReal_X1_real : GoodIn wsX1_onReal wsX1_real := goodIn_r _ [9, 10, 11, 12, 13, 23, 24, 25, 26, 27, 28, 29] (by decide +kernel) (by decide +kernel)
set_option maxRecDepth 20000 in
theorem gX1_onReal_X1_real : GoodIn wsX1_onReal (wsV RX1 69 RX1 yX1_real wsX1_real) := goodIn_app (goodIn_of _ (by decide +kernel)) ggX1_onReal_X1_real
set_option maxRecDepth 20000 in
theorem ggX1_onReal_X1_rounded : GoodIn wsX1_onReal wsX1_rounded := goodIn_r _ [16, 17, 1, 2, 3, 4, 5] (by decide +kernel) (by decide +kernel)
set_option maxRecDepth 20000 in
theorem gX1_onReal_X1_rounded : GoodIn wsX1_onReal (va_wsS RX1 72 yX1_rounded wsX1_rounded) := goodIn_app (goodIn_of _ (by decide +kernel)) ggX1_onReal_X1_rounded
set_option maxRecDepth 20000 in
theorem ggX1_onReal_X1_whole : GoodIn wsX1_onReal wsX1_whole := goodIn_r _ [21, 10, 22, 12, 13, 23, 24, 25, 26, 27, 28, 29] (by decide +kernel) (by decide +kernel)
set_option maxRecDepth 20000 in
theorem gX1_onReal_X1_whole : GoodIn wsX1_onReal (wsV RX1 58 RX1 yX1_whole wsX1_whole) := goodIn_app (goodIn_of _ (by decide +kernel)) ggX1_onReal_X1_whole
theorem dX1_onReal_0 : decode cX1_onReal 0 = .ok (.lload_n 2, 1) := by decide +kernel
theorem dX1_onReal_1 : decode cX1_onReal 1 = .ok (.ldc2_w 23, 3) := by decide +kernel
theorem dX1_onReal_4 : decode cX1_onReal 4 = .ok (.invokestatic 36, 3) := by decide +kernel
theorem dX1_onReal_7 : decode cX1_onReal 7 = .ok (.lstore 4, 2) := by decide +kernel
theorem dX1_onReal_9 : decode cX1_onReal 9 = .ok (.lload 4, 2) := by decide +kernel
theorem dX1_onReal_11 : decode cX1_onReal 11 = .ok (.ldc2_w 23, 3) := by decide +kernel
theorem dX1_onReal_14 : decode cX1_onReal 14 = .ok (.lmul, 1) := by decide +kernel
theorem dX1_onReal_15 : decode cX1_onReal 15 = .ok (.lload_n 2, 1) := by decide +kernel
theorem dX1_onReal_16 : decode cX1_onReal 16 = .ok (.lcmp, 1) := by decide +kernel
theorem dX1_onReal_17 : decode cX1_onReal 17 = .ok (.ifCond .ne 7, 3) := by decide +kernel
theorem dX1_onReal_20 : decode cX1_onReal 20 = .ok (.iconst 1, 1) := by decide +kernel
theorem dX1_onReal_21 : decode cX1_onReal 21 = .ok (.goto 4, 3) := by decide +kernel
theorem dX1_onReal_24 : decode cX1_onReal 24 = .ok (.iconst 0, 1) := by decide +kernel
theorem dX1_onReal_25 : decode cX1_onReal 25 = .ok (.istore 6, 2) := by decide +kernel
theorem dX1_onReal_27 : decode cX1_onReal 27 = .ok (.iload_n 1, 1) := by decide +kernel
theorem dX1_onReal_28 : decode cX1_onReal 28 = .ok (.tableswitch 125 0 5 #[40, 47, 64, 87, 98, 111], 40) := by decide +kernel
theorem dX1_onReal_68 : decode cX1_onReal 68 = .ok (.aload_n 0, 1) := by decide +kernel
theorem dX1_onReal_69 : decode cX1_onReal 69 = .ok (.lload_n 2, 1) := by decide +kernel
theorem dX1_onReal_70 : decode cX1_onReal 70 = .ok (.lneg, 1) := by decide +kernel
theorem dX1_onReal_71 : decode cX1_onReal 71 = .ok (.invokevirtual 69, 3) := by decide +kernel
theorem dX1_onReal_74 : decode cX1_onReal 74 = .ok (.ireturn, 1) := by decide +kernel
theorem dX1_onReal_75 : decode cX1_onReal 75 = .ok (.aload_n 0, 1) := by decide +kernel
theorem dX1_onReal_76 : decode cX1_onReal 76 = .ok (.lload_n 2, 1) := by decide +kernel
theorem dX1_onReal_77 : decode cX1_onReal 77 = .ok (.lconst 0, 1) := by decide +kernel
theorem dX1_onReal_78 : decode cX1_onReal 78 = .ok (.lcmp, 1) := by decide +kernel
theorem dX1_onReal_79 : decode cX1_onReal 79 = .ok (.ifCond .ge 8, 3) := by decide +kernel
theorem dX1_onReal_82 : decode cX1_onReal 82 = .ok (.lload_n 2, 1) := by decide +kernel
theorem dX1_onReal_83 : decode cX1_onReal 83 = .ok (.lneg, 1) := by decide +kernel
theorem dX1_onReal_84 : decode cX1_onReal 84 = .ok (.goto 4, 3) := by decide +kernel
theorem dX1_onReal_87 : decode cX1_onReal 87 = .ok (.lload_n 2, 1) := by decide +kernel
theorem dX1_onReal_88 : decode cX1_onReal 88 = .ok (.invokevirtual 69, 3) := by decide +kernel
theorem dX1_onReal_91 : decode cX1_onReal 91 = .ok (.ireturn, 1) := by decide +kernel
theorem dX1_onReal_92 : decode cX1_onReal 92 = .ok (.aload_n 0, 1) := by decide +kernel
theorem dX1_onReal_93 : decode cX1_onReal 93 = .ok (.iload 6, 2) := by decide +kernel
theorem dX1_onReal_95 : decode cX1_onReal 95 = .ok (.ifCond .eq 8, 3) := by decide +kernel
theorem dX1_onReal_98 : decode cX1_onReal 98 = .ok (.lload 4, 2) := by decide +kernel
theorem dX1_onReal_100 : decode cX1_onReal 100 = .ok (.goto 7, 3) := by decide +kernel
theorem dX1_onReal_103 : decode cX1_onReal 103 = .ok (.lload 4, 2) := by decide +kernel
theorem dX1_onReal_105 : decode cX1_onReal 105 = .ok (.lconst 1, 1) := by decide +kernel
theorem dX1_onReal_106 : decode cX1_onReal 106 = .ok (.ladd, 1) := by decide +kernel
theorem dX1_onReal_107 : decode cX1_onReal 107 = .ok (.ldc2_w 23, 3) := by decide +kernel
theorem dX1_onReal_110 : decode cX1_onReal 110 = .ok (.lmul, 1) := by decide +kernel
theorem dX1_onReal_111 : decode cX1_onReal 111 = .ok (.invokevirtual 69, 3) := by decide +kernel
theorem dX1_onReal_114 : decode cX1_onReal 114 = .ok (.ireturn, 1) := by decide +kernel
theorem dX1_onReal_115 : decode cX1_onReal 115 = .ok (.aload_n 0, 1) := by decide +kernel
theorem dX1_onReal_116 : decode cX1_onReal 116 = .ok (.lload 4, 2) := by decide +kernel
theorem dX1_onReal_118 : decode cX1_onReal 118 = .ok (.ldc2_w 23, 3) := by decide +kernel
theorem dX1_onReal_121 : decode cX1_onReal 121 = .ok (.lmul, 1) := by decide +kernel
theorem dX1_onReal_122 : decode cX1_onReal 122 = .ok (.invokevirtual 69, 3) := by decide +kernel
theorem dX1_onReal_125 : decode cX1_onReal 125 = .ok (.ireturn, 1) := by decide +kernel
theorem dX1_onReal_126 : decode cX1_onReal 126 = .ok (.aload_n 0, 1) := by decide +kernel
theorem dX1_onReal_127 : decode cX1_onReal 127 = .ok (.lload_n 2, 1) := by decide +kernel
theorem dX1_onReal_128 : decode cX1_onReal 128 = .ok (.invokestatic 72, 3) := by decide +kernel
theorem dX1_onReal_131 : decode cX1_onReal 131 = .ok (.ldc2_w 23, 3) := by decide +kernel
theorem dX1_onReal_134 : decode cX1_onReal 134 = .ok (.lmul, 1) := by decide +kernel
theorem dX1_onReal_135 : decode cX1_onReal 135 = .ok (.invokevirtual 69, 3) := by decide +kernel
theorem dX1_onReal_138 : decode cX1_onReal 138 = .ok (.ireturn, 1) := by decide +kernel
theorem dX1_onReal_139 : decode cX1_onReal 139 = .ok (.aload_n 0, 1) := by decide +kernel
theorem dX1_onReal_140 : decode cX1_onReal 140 = .ok (.lload_n 2, 1) := by decide +kernel
theorem dX1_onReal_141 : decode cX1_onReal 141 = .ok (.ldc2_w 23, 3) := by decide +kernel
theorem dX1_onReal_144 : decode cX1_onReal 144 = .ok (.ldiv, 1) := by decide +kernel
theorem dX1_onReal_145 : decode cX1_onReal 145 = .ok (.ldc2_w 23, 3) := by decide +kernel
theorem dX1_onReal_148 : decode cX1_onReal 148 = .ok (.lmul, 1) := by decide +kernel
theorem dX1_onReal_149 : decode cX1_onReal 149 = .ok (.invokevirtual 69, 3) := by decide +kernel
theorem dX1_onReal_152 : decode cX1_onReal 152 = .ok (.ireturn, 1) := by decide +kernel
theorem dX1_onReal_153 : decode cX1_onReal 153 = .ok (.aload_n 0, 1) := by decide +kernel
theorem dX1_onReal_154 : decode cX1_onReal 154 = .ok (.lload_n 2, 1) := by decide +kernel
theorem dX1_onReal_155 : decode cX1_onReal 155 = .ok (.ldc2_w 23, 3) := by decide +kernel
theorem dX1_onReal_158 : decode cX1_onReal 158 = .ok (.ldiv, 1) := by decide +kernel
theorem dX1_onReal_159 : decode cX1_onReal 159 = .ok (.invokevirtual 58, 3) := by decide +kernel
theorem dX1_onReal_162 : decode cX1_onReal 162 = .ok (.ireturn, 1) := by decide +kernel
theorem dX1_root_0 : decode cX1_root 0 = .ok (.lload_n 0, 1) := by decide +kernel
theorem dX1_root_1 : decode cX1_root 1 = .ok (.ldc2_w 23, 3) := by decide +kernel
theorem dX1_root_4 : decode cX1_root 4 = .ok (.lmul, 1) := by decide +kernel
theorem dX1_root_5 : decode cX1_root 5 = .ok (.lstore_n 2, 1) := by decide +kernel
theorem dX1_root_6 : decode cX1_root 6 = .ok (.lconst 0, 1) := by decide +kernel
theorem dX1_root_7 : decode cX1_root 7 = .ok (.lstore 4, 2) := by decide +kernel
theorem dX1_root_9 : decode cX1_root 9 = .ok (.bipush 24, 2) := by decide +kernel
theorem dX1_root_11 : decode cX1_root 11 = .ok (.istore 6, 2) := by decide +kernel
theorem dX1_root_13 : decode cX1_root 13 = .ok (.iload 6, 2) := by decide +kernel
theorem dX1_root_15 : decode cX1_root 15 = .ok (.ifCond .lt 32, 3) := by decide +kernel
theorem dX1_root_18 : decode cX1_root 18 = .ok (.lload 4, 2) := by decide +kernel
theorem dX1_root_20 : decode cX1_root 20 = .ok (.lconst 1, 1) := by decide +kernel
theorem dX1_root_21 : decode cX1_root 21 = .ok (.iload 6, 2) := by decide +kernel
theorem dX1_root_23 : decode cX1_root 23 = .ok (.lshl, 1) := by decide +kernel
theorem dX1_root_24 : decode cX1_root 24 = .ok (.ladd, 1) := by decide +kernel
theorem dX1_root_25 : decode cX1_root 25 = .ok (.lstore 7, 2) := by decide +kernel
theorem dX1_root_27 : decode cX1_root 27 = .ok (.lload 7, 2) := by decide +kernel
theorem dX1_root_29 : decode cX1_root 29 = .ok (.lload 7, 2) := by decide +kernel
theorem dX1_root_31 : decode cX1_root 31 = .ok (.lmul, 1) := by decide +kernel
theorem dX1_root_32 : decode cX1_root 32 = .ok (.lload_n 2, 1) := by decide +kernel
theorem dX1_root_33 : decode cX1_root 33 = .ok (.lcmp, 1) := by decide +kernel
theorem dX1_root_34 : decode cX1_root 34 = .ok (.ifCond .gt 7, 3) := by decide +kernel
theorem dX1_root_37 : decode cX1_root 37 = .ok (.lload 7, 2) := by decide +kernel
theorem dX1_root_39 : decode cX1_root 39 = .ok (.lstore 4, 2) := by decide +kernel
theorem dX1_root_41 : decode cX1_root 41 = .ok (.iinc 6 (-1), 3) := by decide +kernel
theorem dX1_root_44 : decode cX1_root 44 = .ok (.goto (-31), 3) := by decide +kernel
theorem dX1_root_47 : decode cX1_root 47 = .ok (.lload 4, 2) := by decide +kernel
theorem dX1_root_49 : decode cX1_root 49 = .ok (.lreturn, 1) := by decide +kernel
set_option maxRecDepth 20000 in
theorem ggX1_quarter_X1_rounded : GoodIn wsX1_quarter wsX1_rounded := goodIn_r _ [6, 7, 1, 8, 9, 5, 10] (by decide +kernel) (by decide +kernel)
set_option maxRecDepth 20000 in
theorem gX1_quarter_X1_rounded : GoodIn wsX1_quarter (va_wsS RX1 72 yX1_rounded wsX1_rounded) := goodIn_app (goodIn_of _ (by decide +kernel)) ggX1_quarter_X1_rounded
theorem dX1_quarter_0 : decode cX1_quarter 0 = .ok (.lload_n 0, 1) := by decide +kernel
theorem dX1_quarter_1 : decode cX1_quarter 1 = .ok (.ldc2_w 23, 3) := by decide +kernel
theorem dX1_quarter_4 : decode cX1_quarter 4 = .ok (.ldiv, 1) := by decide +kernel
theorem dX1_quarter_5 : decode cX1_quarter 5 = .ok (.l2i, 1) := by decide +kernel
theorem dX1_quarter_6 : decode cX1_quarter 6 = .ok (.istore_n 2, 1) := by decide +kernel
theorem dX1_quarter_7 : decode cX1_quarter 7 = .ok (.lload_n 0, 1) := by decide +kernel
theorem dX1_quarter_8 : decode cX1_quarter 8 = .ok (.iload_n 2, 1) := by decide +kernel
theorem dX1_quarter_9 : decode cX1_quarter 9 = .ok (.i2l, 1) := by decide +kernel
theorem dX1_quarter_10 : decode cX1_quarter 10 = .ok (.ldc2_w 23, 3) := by decide +kernel
theorem dX1_quarter_13 : decode cX1_quarter 13 = .ok (.lmul, 1) := by decide +kernel
theorem dX1_quarter_14 : decode cX1_quarter 14 = .ok (.lsub, 1) := by decide +kernel
theorem dX1_quarter_15 : decode cX1_quarter 15 = .ok (.lstore_n 3, 1) := by decide +kernel
theorem dX1_quarter_16 : decode cX1_quarter 16 = .ok (.lload_n 3, 1) := by decide +kernel
theorem dX1_quarter_17 : decode cX1_quarter 17 = .ok (.lconst 0, 1) := by decide +kernel
theorem dX1_quarter_18 : decode cX1_quarter 18 = .ok (.lcmp, 1) := by decide +kernel
theorem dX1_quarter_19 : decode cX1_quarter 19 = .ok (.ifCond .ne 10, 3) := by decide +kernel
theorem dX1_quarter_22 : decode cX1_quarter 22 = .ok (.getstatic 102, 3) := by decide +kernel
theorem dX1_quarter_25 : decode cX1_quarter 25 = .ok (.iload_n 2, 1) := by decide +kernel
theorem dX1_quarter_26 : decode cX1_quarter 26 = .ok (.iaload, 1) := by decide +kernel
theorem dX1_quarter_27 : decode cX1_quarter 27 = .ok (.i2l, 1) := by decide +kernel
theorem dX1_quarter_28 : decode cX1_quarter 28 = .ok (.lreturn, 1) := by decide +kernel
theorem dX1_quarter_29 : decode cX1_quarter 29 = .ok (.getstatic 102, 3) := by decide +kernel
theorem dX1_quarter_32 : decode cX1_quarter 32 = .ok (.iload_n 2, 1) := by decide +kernel
theorem dX1_quarter_33 : decode cX1_quarter 33 = .ok (.iaload, 1) := by decide +kernel
theorem dX1_quarter_34 : decode cX1_quarter 34 = .ok (.i2l, 1) := by decide +kernel
theorem dX1_quarter_35 : decode cX1_quarter 35 = .ok (.getstatic 102, 3) := by decide +kernel
theorem dX1_quarter_38 : decode cX1_quarter 38 = .ok (.iload_n 2, 1) := by decide +kernel
theorem dX1_quarter_39 : decode cX1_quarter 39 = .ok (.iconst 1, 1) := by decide +kernel
theorem dX1_quarter_40 : decode cX1_quarter 40 = .ok (.iadd, 1) := by decide +kernel
theorem dX1_quarter_41 : decode cX1_quarter 41 = .ok (.iaload, 1) := by decide +kernel
theorem dX1_quarter_42 : decode cX1_quarter 42 = .ok (.getstatic 102, 3) := by decide +kernel
theorem dX1_quarter_45 : decode cX1_quarter 45 = .ok (.iload_n 2, 1) := by decide +kernel
theorem dX1_quarter_46 : decode cX1_quarter 46 = .ok (.iaload, 1) := by decide +kernel
theorem dX1_quarter_47 : decode cX1_quarter 47 = .ok (.isub, 1) := by decide +kernel
theorem dX1_quarter_48 : decode cX1_quarter 48 = .ok (.i2l, 1) := by decide +kernel
theorem dX1_quarter_49 : decode cX1_quarter 49 = .ok (.lload_n 3, 1) := by decide +kernel
theorem dX1_quarter_50 : decode cX1_quarter 50 = .ok (.lmul, 1) := by decide +kernel
theorem dX1_quarter_51 : decode cX1_quarter 51 = .ok (.invokestatic 72, 3) := by decide +kernel
theorem dX1_quarter_54 : decode cX1_quarter 54 = .ok (.ladd, 1) := by decide +kernel
theorem dX1_quarter_55 : decode cX1_quarter 55 = .ok (.lreturn, 1) := by decide +kernel
set_option maxRecDepth 20000 in
theorem ggX1_sine_X1_down : GoodIn wsX1_sine wsX1_down := goodIn_r _ [7] (by decide +kernel) (by decide +kernel)
set_option maxRecDepth 20000 in
theorem gX1_sine_X1_down : GoodIn wsX1_sine (va_wsS RX1 36 yX1_down wsX1_down) := goodIn_app (goodIn_of _ (by decide +kernel)) ggX1_sine_X1_down
set_option maxRecDepth 20000 in
theorem ggX1_sine_X1_quarter : GoodIn wsX1_sine wsX1_quarter := goodIn_r _ [10, 11, 12, 13, 14, 6, 15, 16, 4, 5, 7] (by decide +kernel) (by decide +kernel)
set_option maxRecDepth 20000 in
theorem gX1_sine_X1_quarter : GoodIn wsX1_sine (va_wsS RX1 109 yX1_quarter wsX1_quarter) := goodIn_app (goodIn_of _ (by decide +kernel)) ggX1_sine_X1_quarter
theorem dX1_sine_0 : decode cX1_sine 0 = .ok (.ldc2_w 105, 3) := by decide +kernel
theorem dX1_sine_3 : decode cX1_sine 3 = .ok (.lstore_n 2, 1) := by decide +kernel
theorem dX1_sine_4 : decode cX1_sine 4 = .ok (.lload_n 0, 1) := by decide +kernel
theorem dX1_sine_5 : decode cX1_sine 5 = .ok (.lload_n 0, 1) := by decide +kernel
theorem dX1_sine_6 : decode cX1_sine 6 = .ok (.lload_n 2, 1) := by decide +kernel
theorem dX1_sine_7 : decode cX1_sine 7 = .ok (.invokestatic 36, 3) := by decide +kernel
theorem dX1_sine_10 : decode cX1_sine 10 = .ok (.lload_n 2, 1) := by decide +kernel
theorem dX1_sine_11 : decode cX1_sine 11 = .ok (.lmul, 1) := by decide +kernel
theorem dX1_sine_12 : decode cX1_sine 12 = .ok (.lsub, 1) := by decide +kernel
theorem dX1_sine_13 : decode cX1_sine 13 = .ok (.lstore 4, 2) := by decide +kernel
theorem dX1_sine_15 : decode cX1_sine 15 = .ok (.lload 4, 2) := by decide +kernel
theorem dX1_sine_17 : decode cX1_sine 17 = .ok (.ldc2_w 107, 3) := by decide +kernel
theorem dX1_sine_20 : decode cX1_sine 20 = .ok (.lcmp, 1) := by decide +kernel
theorem dX1_sine_21 : decode cX1_sine 21 = .ok (.ifCond .lt 7, 3) := by decide +kernel
theorem dX1_sine_24 : decode cX1_sine 24 = .ok (.iconst 1, 1) := by decide +kernel
theorem dX1_sine_25 : decode cX1_sine 25 = .ok (.goto 4, 3) := by decide +kernel
theorem dX1_sine_28 : decode cX1_sine 28 = .ok (.iconst 0, 1) := by decide +kernel
theorem dX1_sine_29 : decode cX1_sine 29 = .ok (.istore 6, 2) := by decide +kernel
theorem dX1_sine_31 : decode cX1_sine 31 = .ok (.iload 6, 2) := by decide +kernel
theorem dX1_sine_33 : decode cX1_sine 33 = .ok (.ifCond .eq 12, 3) := by decide +kernel
theorem dX1_sine_36 : decode cX1_sine 36 = .ok (.lload 4, 2) := by decide +kernel
theorem dX1_sine_38 : decode cX1_sine 38 = .ok (.ldc2_w 107, 3) := by decide +kernel
theorem dX1_sine_41 : decode cX1_sine 41 = .ok (.lsub, 1) := by decide +kernel
theorem dX1_sine_42 : decode cX1_sine 42 = .ok (.goto 5, 3) := by decide +kernel
theorem dX1_sine_45 : decode cX1_sine 45 = .ok (.lload 4, 2) := by decide +kernel
theorem dX1_sine_47 : decode cX1_sine 47 = .ok (.lstore 4, 2) := by decide +kernel
theorem dX1_sine_49 : decode cX1_sine 49 = .ok (.lload 4, 2) := by decide +kernel
theorem dX1_sine_51 : decode cX1_sine 51 = .ok (.ldc2_w 100, 3) := by decide +kernel
theorem dX1_sine_54 : decode cX1_sine 54 = .ok (.lcmp, 1) := by decide +kernel
theorem dX1_sine_55 : decode cX1_sine 55 = .ok (.ifCond .le 12, 3) := by decide +kernel
theorem dX1_sine_58 : decode cX1_sine 58 = .ok (.ldc2_w 107, 3) := by decide +kernel
theorem dX1_sine_61 : decode cX1_sine 61 = .ok (.lload 4, 2) := by decide +kernel
theorem dX1_sine_63 : decode cX1_sine 63 = .ok (.lsub, 1) := by decide +kernel
theorem dX1_sine_64 : decode cX1_sine 64 = .ok (.goto 5, 3) := by decide +kernel
theorem dX1_sine_67 : decode cX1_sine 67 = .ok (.lload 4, 2) := by decide +kernel
theorem dX1_sine_69 : decode cX1_sine 69 = .ok (.invokestatic 109, 3) := by decide +kernel
theorem dX1_sine_72 : decode cX1_sine 72 = .ok (.lstore 7, 2) := by decide +kernel
theorem dX1_sine_74 : decode cX1_sine 74 = .ok (.iload 6, 2) := by decide +kernel
theorem dX1_sine_76 : decode cX1_sine 76 = .ok (.ifCond .eq 9, 3) := by decide +kernel
theorem dX1_sine_79 : decode cX1_sine 79 = .ok (.lload 7, 2) := by decide +kernel
theorem dX1_sine_81 : decode cX1_sine 81 = .ok (.lneg, 1) := by decide +kernel
theorem dX1_sine_82 : decode cX1_sine 82 = .ok (.goto 5, 3) := by decide +kernel
theorem dX1_sine_85 : decode cX1_sine 85 = .ok (.lload 7, 2) := by decide +kernel
theorem dX1_sine_87 : decode cX1_sine 87 = .ok (.lreturn, 1) := by decide +kernel
set_option maxRecDepth 20000 in
theorem ggX1_against_X1_sine : GoodIn wsX1_against wsX1_sine := goodIn_r _ [5, 6, 7, 1, 8, 9, 4, 10, 11, 12, 13, 14, 15, 16, 17, 18, 19] (by decide +kernel) (by decide +kernel)
set_option maxRecDepth 20000 in
theorem gX1_against_X1_sine : GoodIn wsX1_against (va_wsS RX1 97 yX1_sine wsX1_sine) := goodIn_app (goodIn_of _ (by decide +kernel)) ggX1_against_X1_sine
theorem dX1_against_0 : decode cX1_against 0 = .ok (.lload_n 0, 1) := by decide +kernel
theorem dX1_against_1 : decode cX1_against 1 = .ok (.lload 4, 2) := by decide +kernel
theorem dX1_against_3 : decode cX1_against 3 = .ok (.invokestatic 97, 3) := by decide +kernel
theorem dX1_against_6 : decode cX1_against 6 = .ok (.lmul, 1) := by decide +kernel
theorem dX1_against_7 : decode cX1_against 7 = .ok (.lstore 6, 2) := by decide +kernel
theorem dX1_against_9 : decode cX1_against 9 = .ok (.lload_n 2, 1) := by decide +kernel
theorem dX1_against_10 : decode cX1_against 10 = .ok (.lload 4, 2) := by decide +kernel
theorem dX1_against_12 : decode cX1_against 12 = .ok (.ldc2_w 100, 3) := by decide +kernel
theorem dX1_against_15 : decode cX1_against 15 = .ok (.ladd, 1) := by decide +kernel
theorem dX1_against_16 : decode cX1_against 16 = .ok (.invokestatic 97, 3) := by decide +kernel
theorem dX1_against_19 : decode cX1_against 19 = .ok (.lmul, 1) := by decide +kernel
theorem dX1_against_20 : decode cX1_against 20 = .ok (.lstore 8, 2) := by decide +kernel
theorem dX1_against_22 : decode cX1_against 22 = .ok (.lload 6, 2) := by decide +kernel
theorem dX1_against_24 : decode cX1_against 24 = .ok (.lload 8, 2) := by decide +kernel
theorem dX1_against_26 : decode cX1_against 26 = .ok (.lcmp, 1) := by decide +kernel
theorem dX1_against_27 : decode cX1_against 27 = .ok (.ifCond .ge 7, 3) := by decide +kernel
theorem dX1_against_30 : decode cX1_against 30 = .ok (.iconst (-1), 1) := by decide +kernel
theorem dX1_against_31 : decode cX1_against 31 = .ok (.goto 16, 3) := by decide +kernel
theorem dX1_against_34 : decode cX1_against 34 = .ok (.lload 6, 2) := by decide +kernel
theorem dX1_against_36 : decode cX1_against 36 = .ok (.lload 8, 2) := by decide +kernel
theorem dX1_against_38 : decode cX1_against 38 = .ok (.lcmp, 1) := by decide +kernel
theorem dX1_against_39 : decode cX1_against 39 = .ok (.ifCond .le 7, 3) := by decide +kernel
theorem dX1_against_42 : decode cX1_against 42 = .ok (.iconst 1, 1) := by decide +kernel
theorem dX1_against_43 : decode cX1_against 43 = .ok (.goto 4, 3) := by decide +kernel
theorem dX1_against_46 : decode cX1_against 46 = .ok (.iconst 0, 1) := by decide +kernel
theorem dX1_against_47 : decode cX1_against 47 = .ok (.ireturn, 1) := by decide +kernel
set_option maxRecDepth 20000 in
theorem ggX1_first_X1_against : GoodIn wsX1_first wsX1_against := goodIn_r _ [6, 7, 8, 9, 5, 10, 11, 12, 13, 14, 15, 16, 17, 18, 1, 19, 20, 21, 22, 23] (by decide +kernel) (by decide +kernel)
set_option maxRecDepth 20000 in
theorem gX1_first_X1_against : GoodIn wsX1_first (va_wsS RX1 112 yX1_against wsX1_against) := goodIn_app (goodIn_of _ (by decide +kernel)) ggX1_first_X1_against
theorem dX1_first_0 : decode cX1_first 0 = .ok (.iconst 0, 1) := by decide +kernel
theorem dX1_first_1 : decode cX1_first 1 = .ok (.istore 5, 2) := by decide +kernel
theorem dX1_first_3 : decode cX1_first 3 = .ok (.iload 5, 2) := by decide +kernel
theorem dX1_first_5 : decode cX1_first 5 = .ok (.bipush 90, 2) := by decide +kernel
theorem dX1_first_7 : decode cX1_first 7 = .ok (.if_icmp .ge 28, 3) := by decide +kernel
theorem dX1_first_10 : decode cX1_first 10 = .ok (.lload_n 0, 1) := by decide +kernel
theorem dX1_first_11 : decode cX1_first 11 = .ok (.lload_n 2, 1) := by decide +kernel
theorem dX1_first_12 : decode cX1_first 12 = .ok (.iload 5, 2) := by decide +kernel
theorem dX1_first_14 : decode cX1_first 14 = .ok (.iconst 1, 1) := by decide +kernel
theorem dX1_first_15 : decode cX1_first 15 = .ok (.iadd, 1) := by decide +kernel
theorem dX1_first_16 : decode cX1_first 16 = .ok (.i2l, 1) := by decide +kernel
theorem dX1_first_17 : decode cX1_first 17 = .ok (.ldc2_w 23, 3) := by decide +kernel
theorem dX1_first_20 : decode cX1_first 20 = .ok (.lmul, 1) := by decide +kernel
theorem dX1_first_21 : decode cX1_first 21 = .ok (.invokestatic 112, 3) := by decide +kernel
theorem dX1_first_24 : decode cX1_first 24 = .ok (.iload 4, 2) := by decide +kernel
theorem dX1_first_26 : decode cX1_first 26 = .ok (.if_icmp .ge 9, 3) := by decide +kernel
theorem dX1_first_29 : decode cX1_first 29 = .ok (.iinc 5 1, 3) := by decide +kernel
theorem dX1_first_32 : decode cX1_first 32 = .ok (.goto (-29), 3) := by decide +kernel
theorem dX1_first_35 : decode cX1_first 35 = .ok (.iload 5, 2) := by decide +kernel
theorem dX1_first_37 : decode cX1_first 37 = .ok (.i2l, 1) := by decide +kernel
theorem dX1_first_38 : decode cX1_first 38 = .ok (.ldc2_w 23, 3) := by decide +kernel
theorem dX1_first_41 : decode cX1_first 41 = .ok (.lmul, 1) := by decide +kernel
theorem dX1_first_42 : decode cX1_first 42 = .ok (.lstore 6, 2) := by decide +kernel
theorem dX1_first_44 : decode cX1_first 44 = .ok (.lload_n 0, 1) := by decide +kernel
theorem dX1_first_45 : decode cX1_first 45 = .ok (.lload_n 2, 1) := by decide +kernel
theorem dX1_first_46 : decode cX1_first 46 = .ok (.lload 6, 2) := by decide +kernel
theorem dX1_first_48 : decode cX1_first 48 = .ok (.invokestatic 112, 3) := by decide +kernel
theorem dX1_first_51 : decode cX1_first 51 = .ok (.iload 4, 2) := by decide +kernel
theorem dX1_first_53 : decode cX1_first 53 = .ok (.if_icmp .lt 6, 3) := by decide +kernel
theorem dX1_first_56 : decode cX1_first 56 = .ok (.lload 6, 2) := by decide +kernel
theorem dX1_first_58 : decode cX1_first 58 = .ok (.lreturn, 1) := by decide +kernel
theorem dX1_first_59 : decode cX1_first 59 = .ok (.lload 6, 2) := by decide +kernel
theorem dX1_first_61 : decode cX1_first 61 = .ok (.ldc2_w 23, 3) := by decide +kernel
theorem dX1_first_64 : decode cX1_first 64 = .ok (.ladd, 1) := by decide +kernel
theorem dX1_first_65 : decode cX1_first 65 = .ok (.lstore 8, 2) := by decide +kernel
theorem dX1_first_67 : decode cX1_first 67 = .ok (.lload 8, 2) := by decide +kernel
theorem dX1_first_69 : decode cX1_first 69 = .ok (.lload 6, 2) := by decide +kernel
theorem dX1_first_71 : decode cX1_first 71 = .ok (.lsub, 1) := by decide +kernel
theorem dX1_first_72 : decode cX1_first 72 = .ok (.lconst 1, 1) := by decide +kernel
theorem dX1_first_73 : decode cX1_first 73 = .ok (.lcmp, 1) := by decide +kernel
theorem dX1_first_74 : decode cX1_first 74 = .ok (.ifCond .le 40, 3) := by decide +kernel
theorem dX1_first_77 : decode cX1_first 77 = .ok (.lload 6, 2) := by decide +kernel
theorem dX1_first_79 : decode cX1_first 79 = .ok (.lload 8, 2) := by decide +kernel
theorem dX1_first_81 : decode cX1_first 81 = .ok (.ladd, 1) := by decide +kernel
theorem dX1_first_82 : decode cX1_first 82 = .ok (.ldc2_w 48, 3) := by decide +kernel
theorem dX1_first_85 : decode cX1_first 85 = .ok (.ldiv, 1) := by decide +kernel
theorem dX1_first_86 : decode cX1_first 86 = .ok (.lstore 10, 2) := by decide +kernel
theorem dX1_first_88 : decode cX1_first 88 = .ok (.lload_n 0, 1) := by decide +kernel
theorem dX1_first_89 : decode cX1_first 89 = .ok (.lload_n 2, 1) := by decide +kernel
theorem dX1_first_90 : decode cX1_first 90 = .ok (.lload 10, 2) := by decide +kernel
theorem dX1_first_92 : decode cX1_first 92 = .ok (.invokestatic 112, 3) := by decide +kernel
theorem dX1_first_95 : decode cX1_first 95 = .ok (.iload 4, 2) := by decide +kernel
theorem dX1_first_97 : decode cX1_first 97 = .ok (.if_icmp .ge 10, 3) := by decide +kernel
theorem dX1_first_100 : decode cX1_first 100 = .ok (.lload 10, 2) := by decide +kernel
theorem dX1_first_102 : decode cX1_first 102 = .ok (.lstore 6, 2) := by decide +kernel
theorem dX1_first_104 : decode cX1_first 104 = .ok (.goto 7, 3) := by decide +kernel
theorem dX1_first_107 : decode cX1_first 107 = .ok (.lload 10, 2) := by decide +kernel
theorem dX1_first_109 : decode cX1_first 109 = .ok (.lstore 8, 2) := by decide +kernel
theorem dX1_first_111 : decode cX1_first 111 = .ok (.goto (-44), 3) := by decide +kernel
theorem dX1_first_114 : decode cX1_first 114 = .ok (.lload 8, 2) := by decide +kernel
theorem dX1_first_116 : decode cX1_first 116 = .ok (.lreturn, 1) := by decide +kernel
set_option maxRecDepth 20000 in
theorem ggX1_angle_X1_first : GoodIn wsX1_angle wsX1_first := goodIn_r _ [8, 9, 2, 10, 11, 7, 12, 1, 13, 14, 15, 4, 3, 16, 17, 18, 19, 20, 21, 22, 23, 24, 25, 26] (by decide +kernel) (by decide +kernel)
set_option maxRecDepth 20000 in
theorem gX1_angle_X1_first : GoodIn wsX1_angle (va_wsS RX1 116 yX1_first wsX1_first) := goodIn_app (goodIn_of _ (by decide +kernel)) ggX1_angle_X1_first
set_option maxRecDepth 20000 in
theorem ggX1_angle_X1_down : GoodIn wsX1_angle wsX1_down := goodIn_r _ [18] (by decide +kernel) (by decide +kernel)
set_option maxRecDepth 20000 in
theorem gX1_angle_X1_down : GoodIn wsX1_angle (va_wsS RX1 36 yX1_down wsX1_down) := goodIn_app (goodIn_of _ (by decide +kernel)) ggX1_angle_X1_down
theorem dX1_angle_0 : decode cX1_angle 0 = .ok (.lload_n 0, 1) := by decide +kernel
theorem dX1_angle_1 : decode cX1_angle 1 = .ok (.lconst 0, 1) := by decide +kernel
theorem dX1_angle_2 : decode cX1_angle 2 = .ok (.lcmp, 1) := by decide +kernel
theorem dX1_angle_3 : decode cX1_angle 3 = .ok (.ifCond .ge 8, 3) := by decide +kernel
theorem dX1_angle_6 : decode cX1_angle 6 = .ok (.lload_n 0, 1) := by decide +kernel
theorem dX1_angle_7 : decode cX1_angle 7 = .ok (.lneg, 1) := by decide +kernel
theorem dX1_angle_8 : decode cX1_angle 8 = .ok (.goto 4, 3) := by decide +kernel
theorem dX1_angle_11 : decode cX1_angle 11 = .ok (.lload_n 0, 1) := by decide +kernel
theorem dX1_angle_12 : decode cX1_angle 12 = .ok (.lstore 4, 2) := by decide +kernel
theorem dX1_angle_14 : decode cX1_angle 14 = .ok (.lload_n 2, 1) := by decide +kernel
theorem dX1_angle_15 : decode cX1_angle 15 = .ok (.lconst 0, 1) := by decide +kernel
theorem dX1_angle_16 : decode cX1_angle 16 = .ok (.lcmp, 1) := by decide +kernel
theorem dX1_angle_17 : decode cX1_angle 17 = .ok (.ifCond .ge 8, 3) := by decide +kernel
theorem dX1_angle_20 : decode cX1_angle 20 = .ok (.lload_n 2, 1) := by decide +kernel
theorem dX1_angle_21 : decode cX1_angle 21 = .ok (.lneg, 1) := by decide +kernel
theorem dX1_angle_22 : decode cX1_angle 22 = .ok (.goto 4, 3) := by decide +kernel
theorem dX1_angle_25 : decode cX1_angle 25 = .ok (.lload_n 2, 1) := by decide +kernel
theorem dX1_angle_26 : decode cX1_angle 26 = .ok (.lstore 6, 2) := by decide +kernel
theorem dX1_angle_28 : decode cX1_angle 28 = .ok (.lconst 0, 1) := by decide +kernel
theorem dX1_angle_29 : decode cX1_angle 29 = .ok (.lstore 8, 2) := by decide +kernel
theorem dX1_angle_31 : decode cX1_angle 31 = .ok (.lload 6, 2) := by decide +kernel
theorem dX1_angle_33 : decode cX1_angle 33 = .ok (.lconst 0, 1) := by decide +kernel
theorem dX1_angle_34 : decode cX1_angle 34 = .ok (.lcmp, 1) := by decide +kernel
theorem dX1_angle_35 : decode cX1_angle 35 = .ok (.ifCond .eq 15, 3) := by decide +kernel
theorem dX1_angle_38 : decode cX1_angle 38 = .ok (.lload 4, 2) := by decide +kernel
theorem dX1_angle_40 : decode cX1_angle 40 = .ok (.lconst 0, 1) := by decide +kernel
theorem dX1_angle_41 : decode cX1_angle 41 = .ok (.lcmp, 1) := by decide +kernel
theorem dX1_angle_42 : decode cX1_angle 42 = .ok (.ifCond .ne 8, 3) := by decide +kernel
theorem dX1_angle_45 : decode cX1_angle 45 = .ok (.ldc2_w 100, 3) := by decide +kernel
theorem dX1_angle_48 : decode cX1_angle 48 = .ok (.lstore 8, 2) := by decide +kernel
theorem dX1_angle_50 : decode cX1_angle 50 = .ok (.lload 6, 2) := by decide +kernel
theorem dX1_angle_52 : decode cX1_angle 52 = .ok (.lconst 0, 1) := by decide +kernel
theorem dX1_angle_53 : decode cX1_angle 53 = .ok (.lcmp, 1) := by decide +kernel
theorem dX1_angle_54 : decode cX1_angle 54 = .ok (.ifCond .eq 45, 3) := by decide +kernel
theorem dX1_angle_57 : decode cX1_angle 57 = .ok (.lload 4, 2) := by decide +kernel
theorem dX1_angle_59 : decode cX1_angle 59 = .ok (.lconst 0, 1) := by decide +kernel
theorem dX1_angle_60 : decode cX1_angle 60 = .ok (.lcmp, 1) := by decide +kernel
theorem dX1_angle_61 : decode cX1_angle 61 = .ok (.ifCond .eq 38, 3) := by decide +kernel
theorem dX1_angle_64 : decode cX1_angle 64 = .ok (.lload 4, 2) := by decide +kernel
theorem dX1_angle_66 : decode cX1_angle 66 = .ok (.lload 6, 2) := by decide +kernel
theorem dX1_angle_68 : decode cX1_angle 68 = .ok (.iconst 0, 1) := by decide +kernel
theorem dX1_angle_69 : decode cX1_angle 69 = .ok (.invokestatic 116, 3) := by decide +kernel
theorem dX1_angle_72 : decode cX1_angle 72 = .ok (.lstore 10, 2) := by decide +kernel
theorem dX1_angle_74 : decode cX1_angle 74 = .ok (.lload 4, 2) := by decide +kernel
theorem dX1_angle_76 : decode cX1_angle 76 = .ok (.lload 6, 2) := by decide +kernel
theorem dX1_angle_78 : decode cX1_angle 78 = .ok (.iconst 1, 1) := by decide +kernel
theorem dX1_angle_79 : decode cX1_angle 79 = .ok (.invokestatic 116, 3) := by decide +kernel
theorem dX1_angle_82 : decode cX1_angle 82 = .ok (.lconst 1, 1) := by decide +kernel
theorem dX1_angle_83 : decode cX1_angle 83 = .ok (.lsub, 1) := by decide +kernel
theorem dX1_angle_84 : decode cX1_angle 84 = .ok (.lstore 12, 2) := by decide +kernel
theorem dX1_angle_86 : decode cX1_angle 86 = .ok (.lload 10, 2) := by decide +kernel
theorem dX1_angle_88 : decode cX1_angle 88 = .ok (.lload 12, 2) := by decide +kernel
theorem dX1_angle_90 : decode cX1_angle 90 = .ok (.ladd, 1) := by decide +kernel
theorem dX1_angle_91 : decode cX1_angle 91 = .ok (.ldc2_w 48, 3) := by decide +kernel
theorem dX1_angle_94 : decode cX1_angle 94 = .ok (.invokestatic 36, 3) := by decide +kernel
theorem dX1_angle_97 : decode cX1_angle 97 = .ok (.lstore 8, 2) := by decide +kernel
theorem dX1_angle_99 : decode cX1_angle 99 = .ok (.lload_n 0, 1) := by decide +kernel
theorem dX1_angle_100 : decode cX1_angle 100 = .ok (.lconst 0, 1) := by decide +kernel
theorem dX1_angle_101 : decode cX1_angle 101 = .ok (.lcmp, 1) := by decide +kernel
theorem dX1_angle_102 : decode cX1_angle 102 = .ok (.ifCond .ge 12, 3) := by decide +kernel
theorem dX1_angle_105 : decode cX1_angle 105 = .ok (.ldc2_w 107, 3) := by decide +kernel
theorem dX1_angle_108 : decode cX1_angle 108 = .ok (.lload 8, 2) := by decide +kernel
theorem dX1_angle_110 : decode cX1_angle 110 = .ok (.lsub, 1) := by decide +kernel
theorem dX1_angle_111 : decode cX1_angle 111 = .ok (.goto 5, 3) := by decide +kernel
theorem dX1_angle_114 : decode cX1_angle 114 = .ok (.lload 8, 2) := by decide +kernel
theorem dX1_angle_116 : decode cX1_angle 116 = .ok (.lstore 8, 2) := by decide +kernel
theorem dX1_angle_118 : decode cX1_angle 118 = .ok (.lload_n 2, 1) := by decide +kernel
theorem dX1_angle_119 : decode cX1_angle 119 = .ok (.lconst 0, 1) := by decide +kernel
theorem dX1_angle_120 : decode cX1_angle 120 = .ok (.lcmp, 1) := by decide +kernel
theorem dX1_angle_121 : decode cX1_angle 121 = .ok (.ifCond .ge 19, 3) := by decide +kernel
theorem dX1_angle_124 : decode cX1_angle 124 = .ok (.lload 8, 2) := by decide +kernel
theorem dX1_angle_126 : decode cX1_angle 126 = .ok (.lconst 0, 1) := by decide +kernel
theorem dX1_angle_127 : decode cX1_angle 127 = .ok (.lcmp, 1) := by decide +kernel
theorem dX1_angle_128 : decode cX1_angle 128 = .ok (.ifCond .eq 12, 3) := by decide +kernel
theorem dX1_angle_131 : decode cX1_angle 131 = .ok (.ldc2_w 105, 3) := by decide +kernel
theorem dX1_angle_134 : decode cX1_angle 134 = .ok (.lload 8, 2) := by decide +kernel
theorem dX1_angle_136 : decode cX1_angle 136 = .ok (.lsub, 1) := by decide +kernel
theorem dX1_angle_137 : decode cX1_angle 137 = .ok (.goto 5, 3) := by decide +kernel
theorem dX1_angle_140 : decode cX1_angle 140 = .ok (.lload 8, 2) := by decide +kernel
theorem dX1_angle_142 : decode cX1_angle 142 = .ok (.lreturn, 1) := by decide +kernel
theorem dX1_kind_0 : decode cX1_kind 0 = .ok (.aload_n 0, 1) := by decide +kernel
theorem dX1_kind_1 : decode cX1_kind 1 = .ok (.getfield 9, 3) := by decide +kernel
theorem dX1_kind_4 : decode cX1_kind 4 = .ok (.ireturn, 1) := by decide +kernel
theorem dX1_number_0 : decode cX1_number 0 = .ok (.aload_n 0, 1) := by decide +kernel
theorem dX1_number_1 : decode cX1_number 1 = .ok (.getfield 29, 3) := by decide +kernel
theorem dX1_number_4 : decode cX1_number 4 = .ok (.ireturn, 1) := by decide +kernel
set_option maxRecDepth 20000 in
theorem ggX1_compare_X1_isValue : GoodIn wsX1_compare wsX1_isValue := goodIn_r _ [4, 5] (by decide +kernel) (by decide +kernel)
set_option maxRecDepth 20000 in
theorem gX1_compare_X1_isValue : GoodIn wsX1_compare (va_wsS RX1 50 yX1_isValue wsX1_isValue) := goodIn_app (goodIn_of _ (by decide +kernel)) ggX1_compare_X1_isValue
set_option maxRecDepth 20000 in
theorem ggX1_compare_X1_units : GoodIn wsX1_compare wsX1_units := goodIn_r _ [8, 9] (by decide +kernel) (by decide +kernel)
set_option maxRecDepth 20000 in
theorem gX1_compare_X1_units : GoodIn wsX1_compare (va_wsS RX1 65 yX1_units wsX1_units) := goodIn_app (goodIn_of _ (by decide +kernel)) ggX1_compare_X1_units
theorem dX1_compare_0 : decode cX1_compare 0 = .ok (.iload_n 1, 1) := by decide +kernel
theorem dX1_compare_1 : decode cX1_compare 1 = .ok (.iload_n 2, 1) := by decide +kernel
theorem dX1_compare_2 : decode cX1_compare 2 = .ok (.invokestatic 50, 3) := by decide +kernel
theorem dX1_compare_5 : decode cX1_compare 5 = .ok (.ifCond .eq 12, 3) := by decide +kernel
theorem dX1_compare_8 : decode cX1_compare 8 = .ok (.iload_n 3, 1) := by decide +kernel
theorem dX1_compare_9 : decode cX1_compare 9 = .ok (.iload 4, 2) := by decide +kernel
theorem dX1_compare_11 : decode cX1_compare 11 = .ok (.invokestatic 50, 3) := by decide +kernel
theorem dX1_compare_14 : decode cX1_compare 14 = .ok (.ifCond .ne 5, 3) := by decide +kernel
theorem dX1_compare_17 : decode cX1_compare 17 = .ok (.iconst (-1), 1) := by decide +kernel
theorem dX1_compare_18 : decode cX1_compare 18 = .ok (.ireturn, 1) := by decide +kernel
theorem dX1_compare_19 : decode cX1_compare 19 = .ok (.iload_n 1, 1) := by decide +kernel
theorem dX1_compare_20 : decode cX1_compare 20 = .ok (.iload_n 2, 1) := by decide +kernel
theorem dX1_compare_21 : decode cX1_compare 21 = .ok (.invokestatic 65, 3) := by decide +kernel
theorem dX1_compare_24 : decode cX1_compare 24 = .ok (.lstore 5, 2) := by decide +kernel
theorem dX1_compare_26 : decode cX1_compare 26 = .ok (.iload_n 3, 1) := by decide +kernel
theorem dX1_compare_27 : decode cX1_compare 27 = .ok (.iload 4, 2) := by decide +kernel
theorem dX1_compare_29 : decode cX1_compare 29 = .ok (.invokestatic 65, 3) := by decide +kernel
theorem dX1_compare_32 : decode cX1_compare 32 = .ok (.lstore 7, 2) := by decide +kernel
theorem dX1_compare_34 : decode cX1_compare 34 = .ok (.lload 5, 2) := by decide +kernel
theorem dX1_compare_36 : decode cX1_compare 36 = .ok (.lload 7, 2) := by decide +kernel
theorem dX1_compare_38 : decode cX1_compare 38 = .ok (.lcmp, 1) := by decide +kernel
theorem dX1_compare_39 : decode cX1_compare 39 = .ok (.ifCond .ge 7, 3) := by decide +kernel
theorem dX1_compare_42 : decode cX1_compare 42 = .ok (.iconst 0, 1) := by decide +kernel
theorem dX1_compare_43 : decode cX1_compare 43 = .ok (.goto 16, 3) := by decide +kernel
theorem dX1_compare_46 : decode cX1_compare 46 = .ok (.lload 5, 2) := by decide +kernel
theorem dX1_compare_48 : decode cX1_compare 48 = .ok (.lload 7, 2) := by decide +kernel
theorem dX1_compare_50 : decode cX1_compare 50 = .ok (.lcmp, 1) := by decide +kernel
theorem dX1_compare_51 : decode cX1_compare 51 = .ok (.ifCond .ne 7, 3) := by decide +kernel
theorem dX1_compare_54 : decode cX1_compare 54 = .ok (.iconst 1, 1) := by decide +kernel
theorem dX1_compare_55 : decode cX1_compare 55 = .ok (.goto 4, 3) := by decide +kernel
theorem dX1_compare_58 : decode cX1_compare 58 = .ok (.iconst 2, 1) := by decide +kernel
theorem dX1_compare_59 : decode cX1_compare 59 = .ok (.ireturn, 1) := by decide +kernel
theorem dX1_isBad_0 : decode cX1_isBad 0 = .ok (.iload_n 0, 1) := by decide +kernel
theorem dX1_isBad_1 : decode cX1_isBad 1 = .ok (.ldc 22, 2) := by decide +kernel
theorem dX1_isBad_3 : decode cX1_isBad 3 = .ok (.if_icmp .ne 7, 3) := by decide +kernel
theorem dX1_isBad_6 : decode cX1_isBad 6 = .ok (.iconst 1, 1) := by decide +kernel
theorem dX1_isBad_7 : decode cX1_isBad 7 = .ok (.goto 4, 3) := by decide +kernel
theorem dX1_isBad_10 : decode cX1_isBad 10 = .ok (.iconst 0, 1) := by decide +kernel
theorem dX1_isBad_11 : decode cX1_isBad 11 = .ok (.ireturn, 1) := by decide +kernel
set_option maxRecDepth 20000 in
theorem ggX1_areBad_X1_isBad : GoodIn wsX1_areBad wsX1_isBad := goodIn_r _ [4, 5] (by decide +kernel) (by decide +kernel)
set_option maxRecDepth 20000 in
theorem gX1_areBad_X1_isBad : GoodIn wsX1_areBad (va_wsS RX1 119 yX1_isBad wsX1_isBad) := goodIn_app (goodIn_of _ (by decide +kernel)) ggX1_areBad_X1_isBad
theorem dX1_areBad_0 : decode cX1_areBad 0 = .ok (.iload_n 0, 1) := by decide +kernel
theorem dX1_areBad_1 : decode cX1_areBad 1 = .ok (.invokestatic 119, 3) := by decide +kernel
theorem dX1_areBad_4 : decode cX1_areBad 4 = .ok (.ifCond .ne 40, 3) := by decide +kernel
theorem dX1_areBad_7 : decode cX1_areBad 7 = .ok (.iload_n 1, 1) := by decide +kernel
theorem dX1_areBad_8 : decode cX1_areBad 8 = .ok (.invokestatic 119, 3) := by decide +kernel
theorem dX1_areBad_11 : decode cX1_areBad 11 = .ok (.ifCond .ne 33, 3) := by decide +kernel
theorem dX1_areBad_14 : decode cX1_areBad 14 = .ok (.iload_n 2, 1) := by decide +kernel
theorem dX1_areBad_15 : decode cX1_areBad 15 = .ok (.invokestatic 119, 3) := by decide +kernel
theorem dX1_areBad_18 : decode cX1_areBad 18 = .ok (.ifCond .ne 26, 3) := by decide +kernel
theorem dX1_areBad_21 : decode cX1_areBad 21 = .ok (.iload_n 3, 1) := by decide +kernel
theorem dX1_areBad_22 : decode cX1_areBad 22 = .ok (.invokestatic 119, 3) := by decide +kernel
theorem dX1_areBad_25 : decode cX1_areBad 25 = .ok (.ifCond .ne 19, 3) := by decide +kernel
theorem dX1_areBad_28 : decode cX1_areBad 28 = .ok (.iload 4, 2) := by decide +kernel
theorem dX1_areBad_30 : decode cX1_areBad 30 = .ok (.invokestatic 119, 3) := by decide +kernel
theorem dX1_areBad_33 : decode cX1_areBad 33 = .ok (.ifCond .ne 11, 3) := by decide +kernel
theorem dX1_areBad_36 : decode cX1_areBad 36 = .ok (.iload 5, 2) := by decide +kernel
theorem dX1_areBad_38 : decode cX1_areBad 38 = .ok (.invokestatic 119, 3) := by decide +kernel
theorem dX1_areBad_41 : decode cX1_areBad 41 = .ok (.ifCond .eq 7, 3) := by decide +kernel
theorem dX1_areBad_44 : decode cX1_areBad 44 = .ok (.iconst 1, 1) := by decide +kernel
theorem dX1_areBad_45 : decode cX1_areBad 45 = .ok (.goto 4, 3) := by decide +kernel
theorem dX1_areBad_48 : decode cX1_areBad 48 = .ok (.iconst 0, 1) := by decide +kernel
theorem dX1_areBad_49 : decode cX1_areBad 49 = .ok (.ireturn, 1) := by decide +kernel
set_option maxRecDepth 20000 in
theorem ggX1_matrix_X1_areBad : GoodIn wsX1_matrix wsX1_areBad := goodIn_r _ [5, 6, 7, 4, 8, 9] (by decide +kernel) (by decide +kernel)
set_option maxRecDepth 20000 in
theorem gX1_matrix_X1_areBad : GoodIn wsX1_matrix (va_wsS RX1 123 yX1_areBad wsX1_areBad) := goodIn_app (goodIn_of _ (by decide +kernel)) ggX1_matrix_X1_areBad
theorem dX1_matrix_0 : decode cX1_matrix 0 = .ok (.iload_n 1, 1) := by decide +kernel
theorem dX1_matrix_1 : decode cX1_matrix 1 = .ok (.iload_n 2, 1) := by decide +kernel
theorem dX1_matrix_2 : decode cX1_matrix 2 = .ok (.iload_n 3, 1) := by decide +kernel
theorem dX1_matrix_3 : decode cX1_matrix 3 = .ok (.iload 4, 2) := by decide +kernel
theorem dX1_matrix_5 : decode cX1_matrix 5 = .ok (.iload 5, 2) := by decide +kernel
theorem dX1_matrix_7 : decode cX1_matrix 7 = .ok (.iload 6, 2) := by decide +kernel
theorem dX1_matrix_9 : decode cX1_matrix 9 = .ok (.invokestatic 123, 3) := by decide +kernel
theorem dX1_matrix_12 : decode cX1_matrix 12 = .ok (.ifCond .eq 5, 3) := by decide +kernel
theorem dX1_matrix_15 : decode cX1_matrix 15 = .ok (.iconst 0, 1) := by decide +kernel
theorem dX1_matrix_16 : decode cX1_matrix 16 = .ok (.ireturn, 1) := by decide +kernel
theorem dX1_matrix_17 : decode cX1_matrix 17 = .ok (.aload_n 0, 1) := by decide +kernel
theorem dX1_matrix_18 : decode cX1_matrix 18 = .ok (.getfield 13, 3) := by decide +kernel
theorem dX1_matrix_21 : decode cX1_matrix 21 = .ok (.iconst 0, 1) := by decide +kernel
theorem dX1_matrix_22 : decode cX1_matrix 22 = .ok (.iload_n 1, 1) := by decide +kernel
theorem dX1_matrix_23 : decode cX1_matrix 23 = .ok (.iastore, 1) := by decide +kernel
theorem dX1_matrix_24 : decode cX1_matrix 24 = .ok (.aload_n 0, 1) := by decide +kernel
theorem dX1_matrix_25 : decode cX1_matrix 25 = .ok (.getfield 13, 3) := by decide +kernel
theorem dX1_matrix_28 : decode cX1_matrix 28 = .ok (.iconst 1, 1) := by decide +kernel
theorem dX1_matrix_29 : decode cX1_matrix 29 = .ok (.iload_n 2, 1) := by decide +kernel
theorem dX1_matrix_30 : decode cX1_matrix 30 = .ok (.iastore, 1) := by decide +kernel
theorem dX1_matrix_31 : decode cX1_matrix 31 = .ok (.aload_n 0, 1) := by decide +kernel
theorem dX1_matrix_32 : decode cX1_matrix 32 = .ok (.getfield 13, 3) := by decide +kernel
theorem dX1_matrix_35 : decode cX1_matrix 35 = .ok (.iconst 2, 1) := by decide +kernel
theorem dX1_matrix_36 : decode cX1_matrix 36 = .ok (.iload_n 3, 1) := by decide +kernel
theorem dX1_matrix_37 : decode cX1_matrix 37 = .ok (.iastore, 1) := by decide +kernel
theorem dX1_matrix_38 : decode cX1_matrix 38 = .ok (.aload_n 0, 1) := by decide +kernel
theorem dX1_matrix_39 : decode cX1_matrix 39 = .ok (.getfield 13, 3) := by decide +kernel
theorem dX1_matrix_42 : decode cX1_matrix 42 = .ok (.iconst 3, 1) := by decide +kernel
theorem dX1_matrix_43 : decode cX1_matrix 43 = .ok (.iload 4, 2) := by decide +kernel
theorem dX1_matrix_45 : decode cX1_matrix 45 = .ok (.iastore, 1) := by decide +kernel
theorem dX1_matrix_46 : decode cX1_matrix 46 = .ok (.aload_n 0, 1) := by decide +kernel
theorem dX1_matrix_47 : decode cX1_matrix 47 = .ok (.getfield 13, 3) := by decide +kernel
theorem dX1_matrix_50 : decode cX1_matrix 50 = .ok (.iconst 4, 1) := by decide +kernel
theorem dX1_matrix_51 : decode cX1_matrix 51 = .ok (.iload 5, 2) := by decide +kernel
theorem dX1_matrix_53 : decode cX1_matrix 53 = .ok (.iastore, 1) := by decide +kernel
theorem dX1_matrix_54 : decode cX1_matrix 54 = .ok (.aload_n 0, 1) := by decide +kernel
theorem dX1_matrix_55 : decode cX1_matrix 55 = .ok (.getfield 13, 3) := by decide +kernel
theorem dX1_matrix_58 : decode cX1_matrix 58 = .ok (.iconst 5, 1) := by decide +kernel
theorem dX1_matrix_59 : decode cX1_matrix 59 = .ok (.iload 6, 2) := by decide +kernel
theorem dX1_matrix_61 : decode cX1_matrix 61 = .ok (.iastore, 1) := by decide +kernel
theorem dX1_matrix_62 : decode cX1_matrix 62 = .ok (.iconst 1, 1) := by decide +kernel
theorem dX1_matrix_63 : decode cX1_matrix 63 = .ok (.ireturn, 1) := by decide +kernel
theorem dX1_entry_0 : decode cX1_entry 0 = .ok (.iload_n 1, 1) := by decide +kernel
theorem dX1_entry_1 : decode cX1_entry 1 = .ok (.ifCond .lt 18, 3) := by decide +kernel
theorem dX1_entry_4 : decode cX1_entry 4 = .ok (.iload_n 1, 1) := by decide +kernel
theorem dX1_entry_5 : decode cX1_entry 5 = .ok (.bipush 6, 2) := by decide +kernel
theorem dX1_entry_7 : decode cX1_entry 7 = .ok (.if_icmp .ge 12, 3) := by decide +kernel
theorem dX1_entry_10 : decode cX1_entry 10 = .ok (.aload_n 0, 1) := by decide +kernel
theorem dX1_entry_11 : decode cX1_entry 11 = .ok (.getfield 13, 3) := by decide +kernel
theorem dX1_entry_14 : decode cX1_entry 14 = .ok (.iload_n 1, 1) := by decide +kernel
theorem dX1_entry_15 : decode cX1_entry 15 = .ok (.iaload, 1) := by decide +kernel
theorem dX1_entry_16 : decode cX1_entry 16 = .ok (.goto 4, 3) := by decide +kernel
theorem dX1_entry_19 : decode cX1_entry 19 = .ok (.iconst 0, 1) := by decide +kernel
theorem dX1_entry_20 : decode cX1_entry 20 = .ok (.ireturn, 1) := by decide +kernel
set_option maxRecDepth 20000 in
theorem ggX1_moving_X1_rounded : GoodIn wsX1_moving wsX1_rounded := goodIn_r _ [5, 6, 7, 8, 9, 4, 10] (by decide +kernel) (by decide +kernel)
set_option maxRecDepth 20000 in
theorem gX1_moving_X1_rounded : GoodIn wsX1_moving (va_wsS RX1 72 yX1_rounded wsX1_rounded) := goodIn_app (goodIn_of _ (by decide +kernel)) ggX1_moving_X1_rounded
theorem dX1_moving_0 : decode cX1_moving 0 = .ok (.lload_n 1, 1) := by decide +kernel
theorem dX1_moving_1 : decode cX1_moving 1 = .ok (.aload_n 0, 1) := by decide +kernel
theorem dX1_moving_2 : decode cX1_moving 2 = .ok (.getfield 13, 3) := by decide +kernel
theorem dX1_moving_5 : decode cX1_moving 5 = .ok (.iload 5, 2) := by decide +kernel
theorem dX1_moving_7 : decode cX1_moving 7 = .ok (.iaload, 1) := by decide +kernel
theorem dX1_moving_8 : decode cX1_moving 8 = .ok (.i2l, 1) := by decide +kernel
theorem dX1_moving_9 : decode cX1_moving 9 = .ok (.lmul, 1) := by decide +kernel
theorem dX1_moving_10 : decode cX1_moving 10 = .ok (.lload_n 3, 1) := by decide +kernel
theorem dX1_moving_11 : decode cX1_moving 11 = .ok (.aload_n 0, 1) := by decide +kernel
theorem dX1_moving_12 : decode cX1_moving 12 = .ok (.getfield 13, 3) := by decide +kernel
theorem dX1_moving_15 : decode cX1_moving 15 = .ok (.iconst 2, 1) := by decide +kernel
theorem dX1_moving_16 : decode cX1_moving 16 = .ok (.iload 5, 2) := by decide +kernel
theorem dX1_moving_18 : decode cX1_moving 18 = .ok (.iadd, 1) := by decide +kernel
theorem dX1_moving_19 : decode cX1_moving 19 = .ok (.iaload, 1) := by decide +kernel
theorem dX1_moving_20 : decode cX1_moving 20 = .ok (.i2l, 1) := by decide +kernel
theorem dX1_moving_21 : decode cX1_moving 21 = .ok (.lmul, 1) := by decide +kernel
theorem dX1_moving_22 : decode cX1_moving 22 = .ok (.ladd, 1) := by decide +kernel
theorem dX1_moving_23 : decode cX1_moving 23 = .ok (.invokestatic 72, 3) := by decide +kernel
theorem dX1_moving_26 : decode cX1_moving 26 = .ok (.lstore 7, 2) := by decide +kernel
theorem dX1_moving_28 : decode cX1_moving 28 = .ok (.iload 6, 2) := by decide +kernel
theorem dX1_moving_30 : decode cX1_moving 30 = .ok (.ifCond .eq 19, 3) := by decide +kernel
theorem dX1_moving_33 : decode cX1_moving 33 = .ok (.lload 7, 2) := by decide +kernel
theorem dX1_moving_35 : decode cX1_moving 35 = .ok (.aload_n 0, 1) := by decide +kernel
theorem dX1_moving_36 : decode cX1_moving 36 = .ok (.getfield 13, 3) := by decide +kernel
theorem dX1_moving_39 : decode cX1_moving 39 = .ok (.iconst 4, 1) := by decide +kernel
theorem dX1_moving_40 : decode cX1_moving 40 = .ok (.iload 5, 2) := by decide +kernel
theorem dX1_moving_42 : decode cX1_moving 42 = .ok (.iadd, 1) := by decide +kernel
theorem dX1_moving_43 : decode cX1_moving 43 = .ok (.iaload, 1) := by decide +kernel
theorem dX1_moving_44 : decode cX1_moving 44 = .ok (.i2l, 1) := by decide +kernel
theorem dX1_moving_45 : decode cX1_moving 45 = .ok (.ladd, 1) := by decide +kernel
theorem dX1_moving_46 : decode cX1_moving 46 = .ok (.goto 5, 3) := by decide +kernel
theorem dX1_moving_49 : decode cX1_moving 49 = .ok (.lload 7, 2) := by decide +kernel
theorem dX1_moving_51 : decode cX1_moving 51 = .ok (.lreturn, 1) := by decide +kernel
theorem dX1_take_0 : decode cX1_take 0 = .ok (.iconst 0, 1) := by decide +kernel
theorem dX1_take_1 : decode cX1_take 1 = .ok (.istore_n 1, 1) := by decide +kernel
theorem dX1_take_2 : decode cX1_take 2 = .ok (.iload_n 1, 1) := by decide +kernel
theorem dX1_take_3 : decode cX1_take 3 = .ok (.bipush 6, 2) := by decide +kernel
theorem dX1_take_5 : decode cX1_take 5 = .ok (.if_icmp .ge 38, 3) := by decide +kernel
theorem dX1_take_8 : decode cX1_take 8 = .ok (.aload_n 0, 1) := by decide +kernel
theorem dX1_take_9 : decode cX1_take 9 = .ok (.getfield 17, 3) := by decide +kernel
theorem dX1_take_12 : decode cX1_take 12 = .ok (.iload_n 1, 1) := by decide +kernel
theorem dX1_take_13 : decode cX1_take 13 = .ok (.laload, 1) := by decide +kernel
theorem dX1_take_14 : decode cX1_take 14 = .ok (.ldc2_w 25, 3) := by decide +kernel
theorem dX1_take_17 : decode cX1_take 17 = .ok (.lcmp, 1) := by decide +kernel
theorem dX1_take_18 : decode cX1_take 18 = .ok (.ifCond .gt 16, 3) := by decide +kernel
theorem dX1_take_21 : decode cX1_take 21 = .ok (.aload_n 0, 1) := by decide +kernel
theorem dX1_take_22 : decode cX1_take 22 = .ok (.getfield 17, 3) := by decide +kernel
theorem dX1_take_25 : decode cX1_take 25 = .ok (.iload_n 1, 1) := by decide +kernel
theorem dX1_take_26 : decode cX1_take 26 = .ok (.laload, 1) := by decide +kernel
theorem dX1_take_27 : decode cX1_take 27 = .ok (.ldc2_w 32, 3) := by decide +kernel
theorem dX1_take_30 : decode cX1_take 30 = .ok (.lcmp, 1) := by decide +kernel
theorem dX1_take_31 : decode cX1_take 31 = .ok (.ifCond .ge 6, 3) := by decide +kernel
theorem dX1_take_34 : decode cX1_take 34 = .ok (.bipush (-2), 2) := by decide +kernel
theorem dX1_take_36 : decode cX1_take 36 = .ok (.ireturn, 1) := by decide +kernel
theorem dX1_take_37 : decode cX1_take 37 = .ok (.iinc 1 1, 3) := by decide +kernel
theorem dX1_take_40 : decode cX1_take 40 = .ok (.goto (-38), 3) := by decide +kernel
theorem dX1_take_43 : decode cX1_take 43 = .ok (.iconst 0, 1) := by decide +kernel
theorem dX1_take_44 : decode cX1_take 44 = .ok (.istore_n 1, 1) := by decide +kernel
theorem dX1_take_45 : decode cX1_take 45 = .ok (.iload_n 1, 1) := by decide +kernel
theorem dX1_take_46 : decode cX1_take 46 = .ok (.bipush 6, 2) := by decide +kernel
theorem dX1_take_48 : decode cX1_take 48 = .ok (.if_icmp .ge 22, 3) := by decide +kernel
theorem dX1_take_51 : decode cX1_take 51 = .ok (.aload_n 0, 1) := by decide +kernel
theorem dX1_take_52 : decode cX1_take 52 = .ok (.getfield 13, 3) := by decide +kernel
theorem dX1_take_55 : decode cX1_take 55 = .ok (.iload_n 1, 1) := by decide +kernel
theorem dX1_take_56 : decode cX1_take 56 = .ok (.aload_n 0, 1) := by decide +kernel
theorem dX1_take_57 : decode cX1_take 57 = .ok (.getfield 17, 3) := by decide +kernel
theorem dX1_take_60 : decode cX1_take 60 = .ok (.iload_n 1, 1) := by decide +kernel
theorem dX1_take_61 : decode cX1_take 61 = .ok (.laload, 1) := by decide +kernel
theorem dX1_take_62 : decode cX1_take 62 = .ok (.l2i, 1) := by decide +kernel
theorem dX1_take_63 : decode cX1_take 63 = .ok (.iastore, 1) := by decide +kernel
theorem dX1_take_64 : decode cX1_take 64 = .ok (.iinc 1 1, 3) := by decide +kernel
theorem dX1_take_67 : decode cX1_take 67 = .ok (.goto (-22), 3) := by decide +kernel
theorem dX1_take_70 : decode cX1_take 70 = .ok (.iconst 1, 1) := by decide +kernel
theorem dX1_take_71 : decode cX1_take 71 = .ok (.ireturn, 1) := by decide +kernel
set_option maxRecDepth 20000 in
theorem ggX1_before_X1_areBad : GoodIn wsX1_before wsX1_areBad := goodIn_r _ [5, 6, 7, 4, 8, 9] (by decide +kernel) (by decide +kernel)
set_option maxRecDepth 20000 in
theorem gX1_before_X1_areBad : GoodIn wsX1_before (va_wsS RX1 123 yX1_areBad wsX1_areBad) := goodIn_app (goodIn_of _ (by decide +kernel)) ggX1_before_X1_areBad
set_option maxRecDepth 20000 in
theorem ggX1_before_X1_moving : GoodIn wsX1_before wsX1_moving := goodIn_r _ [13, 14, 15, 16, 4, 17, 18, 19, 20, 21, 22, 29, 30, 31, 32, 33, 34, 35] (by decide +kernel) (by decide +kernel)
set_option maxRecDepth 20000 in
theorem gX1_before_X1_moving : GoodIn wsX1_before (wsV RX1 127 RX1 yX1_moving wsX1_moving) := goodIn_app (goodIn_of _ (by decide +kernel)) ggX1_before_X1_moving
set_option maxRecDepth 20000 in
theorem ggX1_before_X1_take : GoodIn wsX1_before wsX1_take := goodIn_r _ [26, 1, 27, 28, 14, 29, 30, 31, 32, 33, 34, 35] (by decide +kernel) (by decide +kernel)
set_option maxRecDepth 20000 in
theorem gX1_before_X1_take : GoodIn wsX1_before (wsV RX1 131 RX1 yX1_take wsX1_take) := goodIn_app (goodIn_of _ (by decide +kernel)) ggX1_before_X1_take
theorem dX1_before_0 : decode cX1_before 0 = .ok (.iload_n 1, 1) := by decide +kernel
theorem dX1_before_1 : decode cX1_before 1 = .ok (.iload_n 2, 1) := by decide +kernel
theorem dX1_before_2 : decode cX1_before 2 = .ok (.iload_n 3, 1) := by decide +kernel
theorem dX1_before_3 : decode cX1_before 3 = .ok (.iload 4, 2) := by decide +kernel
theorem dX1_before_5 : decode cX1_before 5 = .ok (.iload 5, 2) := by decide +kernel
theorem dX1_before_7 : decode cX1_before 7 = .ok (.iload 6, 2) := by decide +kernel
theorem dX1_before_9 : decode cX1_before 9 = .ok (.invokestatic 123, 3) := by decide +kernel
theorem dX1_before_12 : decode cX1_before 12 = .ok (.ifCond .eq 5, 3) := by decide +kernel
theorem dX1_before_15 : decode cX1_before 15 = .ok (.iconst (-1), 1) := by decide +kernel
theorem dX1_before_16 : decode cX1_before 16 = .ok (.ireturn, 1) := by decide +kernel
theorem dX1_before_17 : decode cX1_before 17 = .ok (.iconst 0, 1) := by decide +kernel
theorem dX1_before_18 : decode cX1_before 18 = .ok (.istore 7, 2) := by decide +kernel
theorem dX1_before_20 : decode cX1_before 20 = .ok (.iload 7, 2) := by decide +kernel
theorem dX1_before_22 : decode cX1_before 22 = .ok (.iconst 2, 1) := by decide +kernel
theorem dX1_before_23 : decode cX1_before 23 = .ok (.if_icmp .ge 70, 3) := by decide +kernel
theorem dX1_before_26 : decode cX1_before 26 = .ok (.aload_n 0, 1) := by decide +kernel
theorem dX1_before_27 : decode cX1_before 27 = .ok (.getfield 17, 3) := by decide +kernel
theorem dX1_before_30 : decode cX1_before 30 = .ok (.iload 7, 2) := by decide +kernel
theorem dX1_before_32 : decode cX1_before 32 = .ok (.aload_n 0, 1) := by decide +kernel
theorem dX1_before_33 : decode cX1_before 33 = .ok (.iload_n 1, 1) := by decide +kernel
theorem dX1_before_34 : decode cX1_before 34 = .ok (.i2l, 1) := by decide +kernel
theorem dX1_before_35 : decode cX1_before 35 = .ok (.iload_n 2, 1) := by decide +kernel
theorem dX1_before_36 : decode cX1_before 36 = .ok (.i2l, 1) := by decide +kernel
theorem dX1_before_37 : decode cX1_before 37 = .ok (.iload 7, 2) := by decide +kernel
theorem dX1_before_39 : decode cX1_before 39 = .ok (.iconst 0, 1) := by decide +kernel
theorem dX1_before_40 : decode cX1_before 40 = .ok (.invokevirtual 127, 3) := by decide +kernel
theorem dX1_before_43 : decode cX1_before 43 = .ok (.lastore, 1) := by decide +kernel
theorem dX1_before_44 : decode cX1_before 44 = .ok (.aload_n 0, 1) := by decide +kernel
theorem dX1_before_45 : decode cX1_before 45 = .ok (.getfield 17, 3) := by decide +kernel
theorem dX1_before_48 : decode cX1_before 48 = .ok (.iconst 2, 1) := by decide +kernel
theorem dX1_before_49 : decode cX1_before 49 = .ok (.iload 7, 2) := by decide +kernel
theorem dX1_before_51 : decode cX1_before 51 = .ok (.iadd, 1) := by decide +kernel
theorem dX1_before_52 : decode cX1_before 52 = .ok (.aload_n 0, 1) := by decide +kernel
theorem dX1_before_53 : decode cX1_before 53 = .ok (.iload_n 3, 1) := by decide +kernel
theorem dX1_before_54 : decode cX1_before 54 = .ok (.i2l, 1) := by decide +kernel
theorem dX1_before_55 : decode cX1_before 55 = .ok (.iload 4, 2) := by decide +kernel
theorem dX1_before_57 : decode cX1_before 57 = .ok (.i2l, 1) := by decide +kernel
theorem dX1_before_58 : decode cX1_before 58 = .ok (.iload 7, 2) := by decide +kernel
theorem dX1_before_60 : decode cX1_before 60 = .ok (.iconst 0, 1) := by decide +kernel
theorem dX1_before_61 : decode cX1_before 61 = .ok (.invokevirtual 127, 3) := by decide +kernel
theorem dX1_before_64 : decode cX1_before 64 = .ok (.lastore, 1) := by decide +kernel
theorem dX1_before_65 : decode cX1_before 65 = .ok (.aload_n 0, 1) := by decide +kernel
theorem dX1_before_66 : decode cX1_before 66 = .ok (.getfield 17, 3) := by decide +kernel
theorem dX1_before_69 : decode cX1_before 69 = .ok (.iconst 4, 1) := by decide +kernel
theorem dX1_before_70 : decode cX1_before 70 = .ok (.iload 7, 2) := by decide +kernel
theorem dX1_before_72 : decode cX1_before 72 = .ok (.iadd, 1) := by decide +kernel
theorem dX1_before_73 : decode cX1_before 73 = .ok (.aload_n 0, 1) := by decide +kernel
theorem dX1_before_74 : decode cX1_before 74 = .ok (.iload 5, 2) := by decide +kernel
theorem dX1_before_76 : decode cX1_before 76 = .ok (.i2l, 1) := by decide +kernel
theorem dX1_before_77 : decode cX1_before 77 = .ok (.iload 6, 2) := by decide +kernel
theorem dX1_before_79 : decode cX1_before 79 = .ok (.i2l, 1) := by decide +kernel
theorem dX1_before_80 : decode cX1_before 80 = .ok (.iload 7, 2) := by decide +kernel
theorem dX1_before_82 : decode cX1_before 82 = .ok (.iconst 1, 1) := by decide +kernel
theorem dX1_before_83 : decode cX1_before 83 = .ok (.invokevirtual 127, 3) := by decide +kernel
theorem dX1_before_86 : decode cX1_before 86 = .ok (.lastore, 1) := by decide +kernel
theorem dX1_before_87 : decode cX1_before 87 = .ok (.iinc 7 1, 3) := by decide +kernel
theorem dX1_before_90 : decode cX1_before 90 = .ok (.goto (-70), 3) := by decide +kernel
theorem dX1_before_93 : decode cX1_before 93 = .ok (.aload_n 0, 1) := by decide +kernel
theorem dX1_before_94 : decode cX1_before 94 = .ok (.invokevirtual 131, 3) := by decide +kernel
theorem dX1_before_97 : decode cX1_before 97 = .ok (.ireturn, 1) := by decide +kernel
set_option maxRecDepth 20000 in
theorem ggX1_invert_X1_quotient : GoodIn wsX1_invert wsX1_quotient := goodIn_r _ [9, 10, 11, 4, 12, 13, 14, 8, 15, 22, 23, 24, 25, 26, 27, 28] (by decide +kernel) (by decide +kernel)
set_option maxRecDepth 20000 in
theorem gX1_invert_X1_quotient : GoodIn wsX1_invert (wsV RX1 76 RX1 yX1_quotient wsX1_quotient) := goodIn_app (goodIn_of _ (by decide +kernel)) ggX1_invert_X1_quotient
set_option maxRecDepth 20000 in
theorem ggX1_invert_X1_take : GoodIn wsX1_invert wsX1_take := goodIn_r _ [19, 2, 20, 21, 1, 22, 23, 24, 25, 26, 27, 28] (by decide +kernel) (by decide +kernel)
set_option maxRecDepth 20000 in
theorem gX1_invert_X1_take : GoodIn wsX1_invert (wsV RX1 131 RX1 yX1_take wsX1_take) := goodIn_app (goodIn_of _ (by decide +kernel)) ggX1_invert_X1_take
theorem dX1_invert_0 : decode cX1_invert 0 = .ok (.aload_n 0, 1) := by decide +kernel
theorem dX1_invert_1 : decode cX1_invert 1 = .ok (.getfield 13, 3) := by decide +kernel
theorem dX1_invert_4 : decode cX1_invert 4 = .ok (.iconst 0, 1) := by decide +kernel
theorem dX1_invert_5 : decode cX1_invert 5 = .ok (.iaload, 1) := by decide +kernel
theorem dX1_invert_6 : decode cX1_invert 6 = .ok (.i2l, 1) := by decide +kernel
theorem dX1_invert_7 : decode cX1_invert 7 = .ok (.lstore_n 1, 1) := by decide +kernel
theorem dX1_invert_8 : decode cX1_invert 8 = .ok (.aload_n 0, 1) := by decide +kernel
theorem dX1_invert_9 : decode cX1_invert 9 = .ok (.getfield 13, 3) := by decide +kernel
theorem dX1_invert_12 : decode cX1_invert 12 = .ok (.iconst 1, 1) := by decide +kernel
theorem dX1_invert_13 : decode cX1_invert 13 = .ok (.iaload, 1) := by decide +kernel
theorem dX1_invert_14 : decode cX1_invert 14 = .ok (.i2l, 1) := by decide +kernel
theorem dX1_invert_15 : decode cX1_invert 15 = .ok (.lstore_n 3, 1) := by decide +kernel
theorem dX1_invert_16 : decode cX1_invert 16 = .ok (.aload_n 0, 1) := by decide +kernel
theorem dX1_invert_17 : decode cX1_invert 17 = .ok (.getfield 13, 3) := by decide +kernel
theorem dX1_invert_20 : decode cX1_invert 20 = .ok (.iconst 2, 1) := by decide +kernel
theorem dX1_invert_21 : decode cX1_invert 21 = .ok (.iaload, 1) := by decide +kernel
theorem dX1_invert_22 : decode cX1_invert 22 = .ok (.i2l, 1) := by decide +kernel
theorem dX1_invert_23 : decode cX1_invert 23 = .ok (.lstore 5, 2) := by decide +kernel
theorem dX1_invert_25 : decode cX1_invert 25 = .ok (.aload_n 0, 1) := by decide +kernel
theorem dX1_invert_26 : decode cX1_invert 26 = .ok (.getfield 13, 3) := by decide +kernel
theorem dX1_invert_29 : decode cX1_invert 29 = .ok (.iconst 3, 1) := by decide +kernel
theorem dX1_invert_30 : decode cX1_invert 30 = .ok (.iaload, 1) := by decide +kernel
theorem dX1_invert_31 : decode cX1_invert 31 = .ok (.i2l, 1) := by decide +kernel
theorem dX1_invert_32 : decode cX1_invert 32 = .ok (.lstore 7, 2) := by decide +kernel
theorem dX1_invert_34 : decode cX1_invert 34 = .ok (.aload_n 0, 1) := by decide +kernel
theorem dX1_invert_35 : decode cX1_invert 35 = .ok (.getfield 13, 3) := by decide +kernel
theorem dX1_invert_38 : decode cX1_invert 38 = .ok (.iconst 4, 1) := by decide +kernel
theorem dX1_invert_39 : decode cX1_invert 39 = .ok (.iaload, 1) := by decide +kernel
theorem dX1_invert_40 : decode cX1_invert 40 = .ok (.i2l, 1) := by decide +kernel
theorem dX1_invert_41 : decode cX1_invert 41 = .ok (.lstore 9, 2) := by decide +kernel
theorem dX1_invert_43 : decode cX1_invert 43 = .ok (.aload_n 0, 1) := by decide +kernel
theorem dX1_invert_44 : decode cX1_invert 44 = .ok (.getfield 13, 3) := by decide +kernel
theorem dX1_invert_47 : decode cX1_invert 47 = .ok (.iconst 5, 1) := by decide +kernel
theorem dX1_invert_48 : decode cX1_invert 48 = .ok (.iaload, 1) := by decide +kernel
theorem dX1_invert_49 : decode cX1_invert 49 = .ok (.i2l, 1) := by decide +kernel
theorem dX1_invert_50 : decode cX1_invert 50 = .ok (.lstore 11, 2) := by decide +kernel
theorem dX1_invert_52 : decode cX1_invert 52 = .ok (.lload_n 1, 1) := by decide +kernel
theorem dX1_invert_53 : decode cX1_invert 53 = .ok (.lload 7, 2) := by decide +kernel
theorem dX1_invert_55 : decode cX1_invert 55 = .ok (.lmul, 1) := by decide +kernel
theorem dX1_invert_56 : decode cX1_invert 56 = .ok (.lload_n 3, 1) := by decide +kernel
theorem dX1_invert_57 : decode cX1_invert 57 = .ok (.lload 5, 2) := by decide +kernel
theorem dX1_invert_59 : decode cX1_invert 59 = .ok (.lmul, 1) := by decide +kernel
theorem dX1_invert_60 : decode cX1_invert 60 = .ok (.lsub, 1) := by decide +kernel
theorem dX1_invert_61 : decode cX1_invert 61 = .ok (.lstore 13, 2) := by decide +kernel
theorem dX1_invert_63 : decode cX1_invert 63 = .ok (.lload 13, 2) := by decide +kernel
theorem dX1_invert_65 : decode cX1_invert 65 = .ok (.lconst 0, 1) := by decide +kernel
theorem dX1_invert_66 : decode cX1_invert 66 = .ok (.lcmp, 1) := by decide +kernel
theorem dX1_invert_67 : decode cX1_invert 67 = .ok (.ifCond .ne 6, 3) := by decide +kernel
theorem dX1_invert_70 : decode cX1_invert 70 = .ok (.bipush (-3), 2) := by decide +kernel
theorem dX1_invert_72 : decode cX1_invert 72 = .ok (.ireturn, 1) := by decide +kernel
theorem dX1_invert_73 : decode cX1_invert 73 = .ok (.iconst 0, 1) := by decide +kernel
theorem dX1_invert_74 : decode cX1_invert 74 = .ok (.istore 15, 2) := by decide +kernel
theorem dX1_invert_76 : decode cX1_invert 76 = .ok (.iconst 0, 1) := by decide +kernel
theorem dX1_invert_77 : decode cX1_invert 77 = .ok (.istore 16, 2) := by decide +kernel
theorem dX1_invert_79 : decode cX1_invert 79 = .ok (.iload 16, 2) := by decide +kernel
theorem dX1_invert_81 : decode cX1_invert 81 = .ok (.iconst 4, 1) := by decide +kernel
theorem dX1_invert_82 : decode cX1_invert 82 = .ok (.if_icmp .ge 88, 3) := by decide +kernel
theorem dX1_invert_85 : decode cX1_invert 85 = .ok (.iload 16, 2) := by decide +kernel
theorem dX1_invert_87 : decode cX1_invert 87 = .ok (.ifCond .ne 8, 3) := by decide +kernel
theorem dX1_invert_90 : decode cX1_invert 90 = .ok (.lload 7, 2) := by decide +kernel
theorem dX1_invert_92 : decode cX1_invert 92 = .ok (.goto 27, 3) := by decide +kernel
theorem dX1_invert_95 : decode cX1_invert 95 = .ok (.iload 16, 2) := by decide +kernel
theorem dX1_invert_97 : decode cX1_invert 97 = .ok (.iconst 1, 1) := by decide +kernel
theorem dX1_invert_98 : decode cX1_invert 98 = .ok (.if_icmp .ne 8, 3) := by decide +kernel
theorem dX1_invert_101 : decode cX1_invert 101 = .ok (.lload_n 3, 1) := by decide +kernel
theorem dX1_invert_102 : decode cX1_invert 102 = .ok (.lneg, 1) := by decide +kernel
theorem dX1_invert_103 : decode cX1_invert 103 = .ok (.goto 16, 3) := by decide +kernel
theorem dX1_invert_106 : decode cX1_invert 106 = .ok (.iload 16, 2) := by decide +kernel
theorem dX1_invert_108 : decode cX1_invert 108 = .ok (.iconst 2, 1) := by decide +kernel
theorem dX1_invert_109 : decode cX1_invert 109 = .ok (.if_icmp .ne 9, 3) := by decide +kernel
theorem dX1_invert_112 : decode cX1_invert 112 = .ok (.lload 5, 2) := by decide +kernel
theorem dX1_invert_114 : decode cX1_invert 114 = .ok (.lneg, 1) := by decide +kernel
theorem dX1_invert_115 : decode cX1_invert 115 = .ok (.goto 4, 3) := by decide +kernel
theorem dX1_invert_118 : decode cX1_invert 118 = .ok (.lload_n 1, 1) := by decide +kernel
theorem dX1_invert_119 : decode cX1_invert 119 = .ok (.lstore 17, 2) := by decide +kernel
theorem dX1_invert_121 : decode cX1_invert 121 = .ok (.aload_n 0, 1) := by decide +kernel
theorem dX1_invert_122 : decode cX1_invert 122 = .ok (.getfield 17, 3) := by decide +kernel
theorem dX1_invert_125 : decode cX1_invert 125 = .ok (.iload 16, 2) := by decide +kernel
theorem dX1_invert_127 : decode cX1_invert 127 = .ok (.aload_n 0, 1) := by decide +kernel
theorem dX1_invert_128 : decode cX1_invert 128 = .ok (.lload 17, 2) := by decide +kernel
theorem dX1_invert_130 : decode cX1_invert 130 = .ok (.ldc2_w 23, 3) := by decide +kernel
theorem dX1_invert_133 : decode cX1_invert 133 = .ok (.lmul, 1) := by decide +kernel
theorem dX1_invert_134 : decode cX1_invert 134 = .ok (.ldc2_w 23, 3) := by decide +kernel
theorem dX1_invert_137 : decode cX1_invert 137 = .ok (.lmul, 1) := by decide +kernel
theorem dX1_invert_138 : decode cX1_invert 138 = .ok (.lload 13, 2) := by decide +kernel
theorem dX1_invert_140 : decode cX1_invert 140 = .ok (.iconst 0, 1) := by decide +kernel
theorem dX1_invert_141 : decode cX1_invert 141 = .ok (.invokevirtual 76, 3) := by decide +kernel
theorem dX1_invert_144 : decode cX1_invert 144 = .ok (.lastore, 1) := by decide +kernel
theorem dX1_invert_145 : decode cX1_invert 145 = .ok (.iload 15, 2) := by decide +kernel
theorem dX1_invert_147 : decode cX1_invert 147 = .ok (.ifCond .ne 10, 3) := by decide +kernel
theorem dX1_invert_150 : decode cX1_invert 150 = .ok (.aload_n 0, 1) := by decide +kernel
theorem dX1_invert_151 : decode cX1_invert 151 = .ok (.getfield 44, 3) := by decide +kernel
theorem dX1_invert_154 : decode cX1_invert 154 = .ok (.ifCond .eq 7, 3) := by decide +kernel
theorem dX1_invert_157 : decode cX1_invert 157 = .ok (.iconst 1, 1) := by decide +kernel
theorem dX1_invert_158 : decode cX1_invert 158 = .ok (.goto 4, 3) := by decide +kernel
theorem dX1_invert_161 : decode cX1_invert 161 = .ok (.iconst 0, 1) := by decide +kernel
theorem dX1_invert_162 : decode cX1_invert 162 = .ok (.istore 15, 2) := by decide +kernel
theorem dX1_invert_164 : decode cX1_invert 164 = .ok (.iinc 16 1, 3) := by decide +kernel
theorem dX1_invert_167 : decode cX1_invert 167 = .ok (.goto (-88), 3) := by decide +kernel
theorem dX1_invert_170 : decode cX1_invert 170 = .ok (.aload_n 0, 1) := by decide +kernel
theorem dX1_invert_171 : decode cX1_invert 171 = .ok (.getfield 17, 3) := by decide +kernel
theorem dX1_invert_174 : decode cX1_invert 174 = .ok (.iconst 4, 1) := by decide +kernel
theorem dX1_invert_175 : decode cX1_invert 175 = .ok (.aload_n 0, 1) := by decide +kernel
theorem dX1_invert_176 : decode cX1_invert 176 = .ok (.lload 5, 2) := by decide +kernel
theorem dX1_invert_178 : decode cX1_invert 178 = .ok (.lload 11, 2) := by decide +kernel
theorem dX1_invert_180 : decode cX1_invert 180 = .ok (.lmul, 1) := by decide +kernel
theorem dX1_invert_181 : decode cX1_invert 181 = .ok (.lload 7, 2) := by decide +kernel
theorem dX1_invert_183 : decode cX1_invert 183 = .ok (.lload 9, 2) := by decide +kernel
theorem dX1_invert_185 : decode cX1_invert 185 = .ok (.lmul, 1) := by decide +kernel
theorem dX1_invert_186 : decode cX1_invert 186 = .ok (.lsub, 1) := by decide +kernel
theorem dX1_invert_187 : decode cX1_invert 187 = .ok (.lload 13, 2) := by decide +kernel
theorem dX1_invert_189 : decode cX1_invert 189 = .ok (.bipush 16, 2) := by decide +kernel
theorem dX1_invert_191 : decode cX1_invert 191 = .ok (.invokevirtual 76, 3) := by decide +kernel
theorem dX1_invert_194 : decode cX1_invert 194 = .ok (.lastore, 1) := by decide +kernel
theorem dX1_invert_195 : decode cX1_invert 195 = .ok (.iload 15, 2) := by decide +kernel
theorem dX1_invert_197 : decode cX1_invert 197 = .ok (.ifCond .ne 10, 3) := by decide +kernel
theorem dX1_invert_200 : decode cX1_invert 200 = .ok (.aload_n 0, 1) := by decide +kernel
theorem dX1_invert_201 : decode cX1_invert 201 = .ok (.getfield 44, 3) := by decide +kernel
theorem dX1_invert_204 : decode cX1_invert 204 = .ok (.ifCond .eq 7, 3) := by decide +kernel
theorem dX1_invert_207 : decode cX1_invert 207 = .ok (.iconst 1, 1) := by decide +kernel
theorem dX1_invert_208 : decode cX1_invert 208 = .ok (.goto 4, 3) := by decide +kernel
theorem dX1_invert_211 : decode cX1_invert 211 = .ok (.iconst 0, 1) := by decide +kernel
theorem dX1_invert_212 : decode cX1_invert 212 = .ok (.istore 15, 2) := by decide +kernel
theorem dX1_invert_214 : decode cX1_invert 214 = .ok (.aload_n 0, 1) := by decide +kernel
theorem dX1_invert_215 : decode cX1_invert 215 = .ok (.getfield 17, 3) := by decide +kernel
theorem dX1_invert_218 : decode cX1_invert 218 = .ok (.iconst 5, 1) := by decide +kernel
theorem dX1_invert_219 : decode cX1_invert 219 = .ok (.aload_n 0, 1) := by decide +kernel
theorem dX1_invert_220 : decode cX1_invert 220 = .ok (.lload_n 3, 1) := by decide +kernel
theorem dX1_invert_221 : decode cX1_invert 221 = .ok (.lload 9, 2) := by decide +kernel
theorem dX1_invert_223 : decode cX1_invert 223 = .ok (.lmul, 1) := by decide +kernel
theorem dX1_invert_224 : decode cX1_invert 224 = .ok (.lload_n 1, 1) := by decide +kernel
theorem dX1_invert_225 : decode cX1_invert 225 = .ok (.lload 11, 2) := by decide +kernel
theorem dX1_invert_227 : decode cX1_invert 227 = .ok (.lmul, 1) := by decide +kernel
theorem dX1_invert_228 : decode cX1_invert 228 = .ok (.lsub, 1) := by decide +kernel
theorem dX1_invert_229 : decode cX1_invert 229 = .ok (.lload 13, 2) := by decide +kernel
theorem dX1_invert_231 : decode cX1_invert 231 = .ok (.bipush 16, 2) := by decide +kernel
theorem dX1_invert_233 : decode cX1_invert 233 = .ok (.invokevirtual 76, 3) := by decide +kernel
theorem dX1_invert_236 : decode cX1_invert 236 = .ok (.lastore, 1) := by decide +kernel
theorem dX1_invert_237 : decode cX1_invert 237 = .ok (.iload 15, 2) := by decide +kernel
theorem dX1_invert_239 : decode cX1_invert 239 = .ok (.ifCond .ne 10, 3) := by decide +kernel
theorem dX1_invert_242 : decode cX1_invert 242 = .ok (.aload_n 0, 1) := by decide +kernel
theorem dX1_invert_243 : decode cX1_invert 243 = .ok (.getfield 44, 3) := by decide +kernel
theorem dX1_invert_246 : decode cX1_invert 246 = .ok (.ifCond .eq 7, 3) := by decide +kernel
theorem dX1_invert_249 : decode cX1_invert 249 = .ok (.iconst 1, 1) := by decide +kernel
theorem dX1_invert_250 : decode cX1_invert 250 = .ok (.goto 4, 3) := by decide +kernel
theorem dX1_invert_253 : decode cX1_invert 253 = .ok (.iconst 0, 1) := by decide +kernel
theorem dX1_invert_254 : decode cX1_invert 254 = .ok (.istore 15, 2) := by decide +kernel
theorem dX1_invert_256 : decode cX1_invert 256 = .ok (.iload 15, 2) := by decide +kernel
theorem dX1_invert_258 : decode cX1_invert 258 = .ok (.ifCond .eq 8, 3) := by decide +kernel
theorem dX1_invert_261 : decode cX1_invert 261 = .ok (.bipush (-2), 2) := by decide +kernel
theorem dX1_invert_263 : decode cX1_invert 263 = .ok (.goto 7, 3) := by decide +kernel
theorem dX1_invert_266 : decode cX1_invert 266 = .ok (.aload_n 0, 1) := by decide +kernel
theorem dX1_invert_267 : decode cX1_invert 267 = .ok (.invokevirtual 131, 3) := by decide +kernel
theorem dX1_invert_270 : decode cX1_invert 270 = .ok (.ireturn, 1) := by decide +kernel
set_option maxRecDepth 20000 in
theorem ggX1_move_X1_isBad : GoodIn wsX1_move wsX1_isBad := goodIn_r _ [8, 9] (by decide +kernel) (by decide +kernel)
set_option maxRecDepth 20000 in
theorem gX1_move_X1_isBad : GoodIn wsX1_move (va_wsS RX1 119 yX1_isBad wsX1_isBad) := goodIn_app (goodIn_of _ (by decide +kernel)) ggX1_move_X1_isBad
set_option maxRecDepth 20000 in
theorem ggX1_move_X1_moving : GoodIn wsX1_move wsX1_moving := goodIn_r _ [13, 14, 15, 16, 7, 17, 18, 19, 20, 21, 22, 23, 24, 25, 26, 27, 28, 29] (by decide +kernel) (by decide +kernel)
set_option maxRecDepth 20000 in
theorem gX1_move_X1_moving : GoodIn wsX1_move (wsV RX1 127 RX1 yX1_moving wsX1_moving) := goodIn_app (goodIn_of _ (by decide +kernel)) ggX1_move_X1_moving
theorem dX1_move_0 : decode cX1_move 0 = .ok (.iload_n 1, 1) := by decide +kernel
theorem dX1_move_1 : decode cX1_move 1 = .ok (.invokestatic 119, 3) := by decide +kernel
theorem dX1_move_4 : decode cX1_move 4 = .ok (.ifCond .ne 10, 3) := by decide +kernel
theorem dX1_move_7 : decode cX1_move 7 = .ok (.iload_n 2, 1) := by decide +kernel
theorem dX1_move_8 : decode cX1_move 8 = .ok (.invokestatic 119, 3) := by decide +kernel
theorem dX1_move_11 : decode cX1_move 11 = .ok (.ifCond .eq 5, 3) := by decide +kernel
theorem dX1_move_14 : decode cX1_move 14 = .ok (.iconst (-1), 1) := by decide +kernel
theorem dX1_move_15 : decode cX1_move 15 = .ok (.ireturn, 1) := by decide +kernel
theorem dX1_move_16 : decode cX1_move 16 = .ok (.aload_n 0, 1) := by decide +kernel
theorem dX1_move_17 : decode cX1_move 17 = .ok (.iload_n 1, 1) := by decide +kernel
theorem dX1_move_18 : decode cX1_move 18 = .ok (.i2l, 1) := by decide +kernel
theorem dX1_move_19 : decode cX1_move 19 = .ok (.iload_n 2, 1) := by decide +kernel
theorem dX1_move_20 : decode cX1_move 20 = .ok (.i2l, 1) := by decide +kernel
theorem dX1_move_21 : decode cX1_move 21 = .ok (.iconst 0, 1) := by decide +kernel
theorem dX1_move_22 : decode cX1_move 22 = .ok (.iload_n 3, 1) := by decide +kernel
theorem dX1_move_23 : decode cX1_move 23 = .ok (.invokevirtual 127, 3) := by decide +kernel
theorem dX1_move_26 : decode cX1_move 26 = .ok (.lstore 4, 2) := by decide +kernel
theorem dX1_move_28 : decode cX1_move 28 = .ok (.aload_n 0, 1) := by decide +kernel
theorem dX1_move_29 : decode cX1_move 29 = .ok (.iload_n 1, 1) := by decide +kernel
theorem dX1_move_30 : decode cX1_move 30 = .ok (.i2l, 1) := by decide +kernel
theorem dX1_move_31 : decode cX1_move 31 = .ok (.iload_n 2, 1) := by decide +kernel
theorem dX1_move_32 : decode cX1_move 32 = .ok (.i2l, 1) := by decide +kernel
theorem dX1_move_33 : decode cX1_move 33 = .ok (.iconst 1, 1) := by decide +kernel
theorem dX1_move_34 : decode cX1_move 34 = .ok (.iload_n 3, 1) := by decide +kernel
theorem dX1_move_35 : decode cX1_move 35 = .ok (.invokevirtual 127, 3) := by decide +kernel
theorem dX1_move_38 : decode cX1_move 38 = .ok (.lstore 6, 2) := by decide +kernel
theorem dX1_move_40 : decode cX1_move 40 = .ok (.lload 4, 2) := by decide +kernel
theorem dX1_move_42 : decode cX1_move 42 = .ok (.ldc2_w 25, 3) := by decide +kernel
theorem dX1_move_45 : decode cX1_move 45 = .ok (.lcmp, 1) := by decide +kernel
theorem dX1_move_46 : decode cX1_move 46 = .ok (.ifCond .gt 30, 3) := by decide +kernel
theorem dX1_move_49 : decode cX1_move 49 = .ok (.lload 4, 2) := by decide +kernel
theorem dX1_move_51 : decode cX1_move 51 = .ok (.ldc2_w 32, 3) := by decide +kernel
theorem dX1_move_54 : decode cX1_move 54 = .ok (.lcmp, 1) := by decide +kernel
theorem dX1_move_55 : decode cX1_move 55 = .ok (.ifCond .lt 21, 3) := by decide +kernel
theorem dX1_move_58 : decode cX1_move 58 = .ok (.lload 6, 2) := by decide +kernel
theorem dX1_move_60 : decode cX1_move 60 = .ok (.ldc2_w 25, 3) := by decide +kernel
theorem dX1_move_63 : decode cX1_move 63 = .ok (.lcmp, 1) := by decide +kernel
theorem dX1_move_64 : decode cX1_move 64 = .ok (.ifCond .gt 12, 3) := by decide +kernel
theorem dX1_move_67 : decode cX1_move 67 = .ok (.lload 6, 2) := by decide +kernel
theorem dX1_move_69 : decode cX1_move 69 = .ok (.ldc2_w 32, 3) := by decide +kernel
theorem dX1_move_72 : decode cX1_move 72 = .ok (.lcmp, 1) := by decide +kernel
theorem dX1_move_73 : decode cX1_move 73 = .ok (.ifCond .ge 6, 3) := by decide +kernel
theorem dX1_move_76 : decode cX1_move 76 = .ok (.bipush (-2), 2) := by decide +kernel
theorem dX1_move_78 : decode cX1_move 78 = .ok (.ireturn, 1) := by decide +kernel
theorem dX1_move_79 : decode cX1_move 79 = .ok (.aload_n 0, 1) := by decide +kernel
theorem dX1_move_80 : decode cX1_move 80 = .ok (.lload 4, 2) := by decide +kernel
theorem dX1_move_82 : decode cX1_move 82 = .ok (.l2i, 1) := by decide +kernel
theorem dX1_move_83 : decode cX1_move 83 = .ok (.putfield 135, 3) := by decide +kernel
theorem dX1_move_86 : decode cX1_move 86 = .ok (.aload_n 0, 1) := by decide +kernel
theorem dX1_move_87 : decode cX1_move 87 = .ok (.lload 6, 2) := by decide +kernel
theorem dX1_move_89 : decode cX1_move 89 = .ok (.l2i, 1) := by decide +kernel
theorem dX1_move_90 : decode cX1_move 90 = .ok (.putfield 138, 3) := by decide +kernel
theorem dX1_move_93 : decode cX1_move 93 = .ok (.iconst 1, 1) := by decide +kernel
theorem dX1_move_94 : decode cX1_move 94 = .ok (.ireturn, 1) := by decide +kernel
theorem dX1_moved_0 : decode cX1_moved 0 = .ok (.iload_n 1, 1) := by decide +kernel
theorem dX1_moved_1 : decode cX1_moved 1 = .ok (.ifCond .ne 10, 3) := by decide +kernel
theorem dX1_moved_4 : decode cX1_moved 4 = .ok (.aload_n 0, 1) := by decide +kernel
theorem dX1_moved_5 : decode cX1_moved 5 = .ok (.getfield 135, 3) := by decide +kernel
theorem dX1_moved_8 : decode cX1_moved 8 = .ok (.goto 16, 3) := by decide +kernel
theorem dX1_moved_11 : decode cX1_moved 11 = .ok (.iload_n 1, 1) := by decide +kernel
theorem dX1_moved_12 : decode cX1_moved 12 = .ok (.iconst 1, 1) := by decide +kernel
theorem dX1_moved_13 : decode cX1_moved 13 = .ok (.if_icmp .ne 10, 3) := by decide +kernel
theorem dX1_moved_16 : decode cX1_moved 16 = .ok (.aload_n 0, 1) := by decide +kernel
theorem dX1_moved_17 : decode cX1_moved 17 = .ok (.getfield 138, 3) := by decide +kernel
theorem dX1_moved_20 : decode cX1_moved 20 = .ok (.goto 4, 3) := by decide +kernel
theorem dX1_moved_23 : decode cX1_moved 23 = .ok (.iconst 0, 1) := by decide +kernel
theorem dX1_moved_24 : decode cX1_moved 24 = .ok (.ireturn, 1) := by decide +kernel
theorem dJ9_floorDiv_f86c9_0 : decode cJ9_floorDiv_f86c9 0 = .ok (.lload_n 0, 1) := by decide +kernel
theorem dJ9_floorDiv_f86c9_1 : decode cJ9_floorDiv_f86c9 1 = .ok (.lload_n 2, 1) := by decide +kernel
theorem dJ9_floorDiv_f86c9_2 : decode cJ9_floorDiv_f86c9 2 = .ok (.ldiv, 1) := by decide +kernel
theorem dJ9_floorDiv_f86c9_3 : decode cJ9_floorDiv_f86c9 3 = .ok (.lstore 4, 2) := by decide +kernel
theorem dJ9_floorDiv_f86c9_5 : decode cJ9_floorDiv_f86c9 5 = .ok (.lload_n 0, 1) := by decide +kernel
theorem dJ9_floorDiv_f86c9_6 : decode cJ9_floorDiv_f86c9 6 = .ok (.lload_n 2, 1) := by decide +kernel
theorem dJ9_floorDiv_f86c9_7 : decode cJ9_floorDiv_f86c9 7 = .ok (.lxor, 1) := by decide +kernel
theorem dJ9_floorDiv_f86c9_8 : decode cJ9_floorDiv_f86c9 8 = .ok (.lconst 0, 1) := by decide +kernel
theorem dJ9_floorDiv_f86c9_9 : decode cJ9_floorDiv_f86c9 9 = .ok (.lcmp, 1) := by decide +kernel
theorem dJ9_floorDiv_f86c9_10 : decode cJ9_floorDiv_f86c9 10 = .ok (.ifCond .ge 17, 3) := by decide +kernel
theorem dJ9_floorDiv_f86c9_13 : decode cJ9_floorDiv_f86c9 13 = .ok (.lload 4, 2) := by decide +kernel
theorem dJ9_floorDiv_f86c9_15 : decode cJ9_floorDiv_f86c9 15 = .ok (.lload_n 2, 1) := by decide +kernel
theorem dJ9_floorDiv_f86c9_16 : decode cJ9_floorDiv_f86c9 16 = .ok (.lmul, 1) := by decide +kernel
theorem dJ9_floorDiv_f86c9_17 : decode cJ9_floorDiv_f86c9 17 = .ok (.lload_n 0, 1) := by decide +kernel
theorem dJ9_floorDiv_f86c9_18 : decode cJ9_floorDiv_f86c9 18 = .ok (.lcmp, 1) := by decide +kernel
theorem dJ9_floorDiv_f86c9_19 : decode cJ9_floorDiv_f86c9 19 = .ok (.ifCond .eq 8, 3) := by decide +kernel
theorem dJ9_floorDiv_f86c9_22 : decode cJ9_floorDiv_f86c9 22 = .ok (.lload 4, 2) := by decide +kernel
theorem dJ9_floorDiv_f86c9_24 : decode cJ9_floorDiv_f86c9 24 = .ok (.lconst 1, 1) := by decide +kernel
theorem dJ9_floorDiv_f86c9_25 : decode cJ9_floorDiv_f86c9 25 = .ok (.lsub, 1) := by decide +kernel
theorem dJ9_floorDiv_f86c9_26 : decode cJ9_floorDiv_f86c9 26 = .ok (.lreturn, 1) := by decide +kernel
theorem dJ9_floorDiv_f86c9_27 : decode cJ9_floorDiv_f86c9 27 = .ok (.lload 4, 2) := by decide +kernel
theorem dJ9_floorDiv_f86c9_29 : decode cJ9_floorDiv_f86c9 29 = .ok (.lreturn, 1) := by decide +kernel
theorem dJ9_floorMod_f86c9_0 : decode cJ9_floorMod_f86c9 0 = .ok (.lload_n 0, 1) := by decide +kernel
theorem dJ9_floorMod_f86c9_1 : decode cJ9_floorMod_f86c9 1 = .ok (.lload_n 2, 1) := by decide +kernel
theorem dJ9_floorMod_f86c9_2 : decode cJ9_floorMod_f86c9 2 = .ok (.lrem, 1) := by decide +kernel
theorem dJ9_floorMod_f86c9_3 : decode cJ9_floorMod_f86c9 3 = .ok (.lstore 4, 2) := by decide +kernel
theorem dJ9_floorMod_f86c9_5 : decode cJ9_floorMod_f86c9 5 = .ok (.lload_n 0, 1) := by decide +kernel
theorem dJ9_floorMod_f86c9_6 : decode cJ9_floorMod_f86c9 6 = .ok (.lload_n 2, 1) := by decide +kernel
theorem dJ9_floorMod_f86c9_7 : decode cJ9_floorMod_f86c9 7 = .ok (.lxor, 1) := by decide +kernel
theorem dJ9_floorMod_f86c9_8 : decode cJ9_floorMod_f86c9 8 = .ok (.lconst 0, 1) := by decide +kernel
theorem dJ9_floorMod_f86c9_9 : decode cJ9_floorMod_f86c9 9 = .ok (.lcmp, 1) := by decide +kernel
theorem dJ9_floorMod_f86c9_10 : decode cJ9_floorMod_f86c9 10 = .ok (.ifCond .ge 15, 3) := by decide +kernel
theorem dJ9_floorMod_f86c9_13 : decode cJ9_floorMod_f86c9 13 = .ok (.lload 4, 2) := by decide +kernel
theorem dJ9_floorMod_f86c9_15 : decode cJ9_floorMod_f86c9 15 = .ok (.lconst 0, 1) := by decide +kernel
theorem dJ9_floorMod_f86c9_16 : decode cJ9_floorMod_f86c9 16 = .ok (.lcmp, 1) := by decide +kernel
theorem dJ9_floorMod_f86c9_17 : decode cJ9_floorMod_f86c9 17 = .ok (.ifCond .eq 8, 3) := by decide +kernel
theorem dJ9_floorMod_f86c9_20 : decode cJ9_floorMod_f86c9 20 = .ok (.lload 4, 2) := by decide +kernel
theorem dJ9_floorMod_f86c9_22 : decode cJ9_floorMod_f86c9 22 = .ok (.lload_n 2, 1) := by decide +kernel
theorem dJ9_floorMod_f86c9_23 : decode cJ9_floorMod_f86c9 23 = .ok (.ladd, 1) := by decide +kernel
theorem dJ9_floorMod_f86c9_24 : decode cJ9_floorMod_f86c9 24 = .ok (.lreturn, 1) := by decide +kernel
theorem dJ9_floorMod_f86c9_25 : decode cJ9_floorMod_f86c9 25 = .ok (.lload 4, 2) := by decide +kernel
theorem dJ9_floorMod_f86c9_27 : decode cJ9_floorMod_f86c9 27 = .ok (.lreturn, 1) := by decide +kernel
theorem dJ9_abs_067f4_0 : decode cJ9_abs_067f4 0 = .ok (.lload_n 0, 1) := by decide +kernel
theorem dJ9_abs_067f4_1 : decode cJ9_abs_067f4 1 = .ok (.lconst 0, 1) := by decide +kernel
theorem dJ9_abs_067f4_2 : decode cJ9_abs_067f4 2 = .ok (.lcmp, 1) := by decide +kernel
theorem dJ9_abs_067f4_3 : decode cJ9_abs_067f4 3 = .ok (.ifCond .ge 8, 3) := by decide +kernel
theorem dJ9_abs_067f4_6 : decode cJ9_abs_067f4 6 = .ok (.lload_n 0, 1) := by decide +kernel
theorem dJ9_abs_067f4_7 : decode cJ9_abs_067f4 7 = .ok (.lneg, 1) := by decide +kernel
theorem dJ9_abs_067f4_8 : decode cJ9_abs_067f4 8 = .ok (.goto 4, 3) := by decide +kernel
theorem dJ9_abs_067f4_11 : decode cJ9_abs_067f4 11 = .ok (.lload_n 0, 1) := by decide +kernel
theorem dJ9_abs_067f4_12 : decode cJ9_abs_067f4 12 = .ok (.lreturn, 1) := by decide +kernel
theorem dJ9_min_f86c9_0 : decode cJ9_min_f86c9 0 = .ok (.lload_n 0, 1) := by decide +kernel
theorem dJ9_min_f86c9_1 : decode cJ9_min_f86c9 1 = .ok (.lload_n 2, 1) := by decide +kernel
theorem dJ9_min_f86c9_2 : decode cJ9_min_f86c9 2 = .ok (.lcmp, 1) := by decide +kernel
theorem dJ9_min_f86c9_3 : decode cJ9_min_f86c9 3 = .ok (.ifCond .gt 7, 3) := by decide +kernel
theorem dJ9_min_f86c9_6 : decode cJ9_min_f86c9 6 = .ok (.lload_n 0, 1) := by decide +kernel
theorem dJ9_min_f86c9_7 : decode cJ9_min_f86c9 7 = .ok (.goto 4, 3) := by decide +kernel
theorem dJ9_min_f86c9_10 : decode cJ9_min_f86c9 10 = .ok (.lload_n 2, 1) := by decide +kernel
theorem dJ9_min_f86c9_11 : decode cJ9_min_f86c9 11 = .ok (.lreturn, 1) := by decide +kernel
