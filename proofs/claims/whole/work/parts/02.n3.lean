theorem dX4_seen_31 : decode cX4_seen 31 = .ok (.invokestatic 63, 3) := by decide +kernel
theorem dX4_seen_34 : decode cX4_seen 34 = .ok (.if_icmp .ne 9, 3) := by decide +kernel
theorem dX4_seen_37 : decode cX4_seen 37 = .ok (.iload_n 1, 1) := by decide +kernel
theorem dX4_seen_38 : decode cX4_seen 38 = .ok (.iload_n 2, 1) := by decide +kernel
theorem dX4_seen_39 : decode cX4_seen 39 = .ok (.iand, 1) := by decide +kernel
theorem dX4_seen_40 : decode cX4_seen 40 = .ok (.ifCond .eq 6, 3) := by decide +kernel
theorem dX4_seen_43 : decode cX4_seen 43 = .ok (.bipush (-2), 2) := by decide +kernel
theorem dX4_seen_45 : decode cX4_seen 45 = .ok (.ireturn, 1) := by decide +kernel
theorem dX4_seen_46 : decode cX4_seen 46 = .ok (.aload_n 0, 1) := by decide +kernel
theorem dX4_seen_47 : decode cX4_seen 47 = .ok (.getfield 10, 3) := by decide +kernel
theorem dX4_seen_50 : decode cX4_seen 50 = .ok (.getfield 158, 3) := by decide +kernel
theorem dX4_seen_53 : decode cX4_seen 53 = .ok (.istore 4, 2) := by decide +kernel
theorem dX4_seen_55 : decode cX4_seen 55 = .ok (.iload 4, 2) := by decide +kernel
theorem dX4_seen_57 : decode cX4_seen 57 = .ok (.iconst 0, 1) := by decide +kernel
theorem dX4_seen_58 : decode cX4_seen 58 = .ok (.iconst 5, 1) := by decide +kernel
theorem dX4_seen_59 : decode cX4_seen 59 = .ok (.invokestatic 46, 3) := by decide +kernel
theorem dX4_seen_62 : decode cX4_seen 62 = .ok (.ifCond .ne 6, 3) := by decide +kernel
theorem dX4_seen_65 : decode cX4_seen 65 = .ok (.bipush (-4), 2) := by decide +kernel
theorem dX4_seen_67 : decode cX4_seen 67 = .ok (.ireturn, 1) := by decide +kernel
theorem dX4_seen_68 : decode cX4_seen 68 = .ok (.aload_n 0, 1) := by decide +kernel
theorem dX4_seen_69 : decode cX4_seen 69 = .ok (.getfield 10, 3) := by decide +kernel
theorem dX4_seen_72 : decode cX4_seen 72 = .ok (.getfield 161, 3) := by decide +kernel
theorem dX4_seen_75 : decode cX4_seen 75 = .ok (.iload 4, 2) := by decide +kernel
theorem dX4_seen_77 : decode cX4_seen 77 = .ok (.iload_n 1, 1) := by decide +kernel
theorem dX4_seen_78 : decode cX4_seen 78 = .ok (.iastore, 1) := by decide +kernel
theorem dX4_seen_79 : decode cX4_seen 79 = .ok (.aload_n 0, 1) := by decide +kernel
theorem dX4_seen_80 : decode cX4_seen 80 = .ok (.getfield 10, 3) := by decide +kernel
theorem dX4_seen_83 : decode cX4_seen 83 = .ok (.getfield 164, 3) := by decide +kernel
theorem dX4_seen_86 : decode cX4_seen 86 = .ok (.iload 4, 2) := by decide +kernel
theorem dX4_seen_88 : decode cX4_seen 88 = .ok (.iload_n 2, 1) := by decide +kernel
theorem dX4_seen_89 : decode cX4_seen 89 = .ok (.iastore, 1) := by decide +kernel
theorem dX4_seen_90 : decode cX4_seen 90 = .ok (.aload_n 0, 1) := by decide +kernel
theorem dX4_seen_91 : decode cX4_seen 91 = .ok (.getfield 10, 3) := by decide +kernel
theorem dX4_seen_94 : decode cX4_seen 94 = .ok (.getfield 167, 3) := by decide +kernel
theorem dX4_seen_97 : decode cX4_seen 97 = .ok (.iload 4, 2) := by decide +kernel
theorem dX4_seen_99 : decode cX4_seen 99 = .ok (.iload_n 3, 1) := by decide +kernel
theorem dX4_seen_100 : decode cX4_seen 100 = .ok (.iastore, 1) := by decide +kernel
theorem dX4_seen_101 : decode cX4_seen 101 = .ok (.aload_n 0, 1) := by decide +kernel
theorem dX4_seen_102 : decode cX4_seen 102 = .ok (.getfield 10, 3) := by decide +kernel
theorem dX4_seen_105 : decode cX4_seen 105 = .ok (.iload 4, 2) := by decide +kernel
theorem dX4_seen_107 : decode cX4_seen 107 = .ok (.iconst 1, 1) := by decide +kernel
theorem dX4_seen_108 : decode cX4_seen 108 = .ok (.iadd, 1) := by decide +kernel
theorem dX4_seen_109 : decode cX4_seen 109 = .ok (.putfield 158, 3) := by decide +kernel
theorem dX4_seen_112 : decode cX4_seen 112 = .ok (.iload 4, 2) := by decide +kernel
theorem dX4_seen_114 : decode cX4_seen 114 = .ok (.iconst 1, 1) := by decide +kernel
theorem dX4_seen_115 : decode cX4_seen 115 = .ok (.iadd, 1) := by decide +kernel
theorem dX4_seen_116 : decode cX4_seen 116 = .ok (.ireturn, 1) := by decide +kernel
theorem dX4_forget_0 : decode cX4_forget 0 = .ok (.aload_n 0, 1) := by decide +kernel
theorem dX4_forget_1 : decode cX4_forget 1 = .ok (.getfield 10, 3) := by decide +kernel
theorem dX4_forget_4 : decode cX4_forget 4 = .ok (.getfield 158, 3) := by decide +kernel
theorem dX4_forget_7 : decode cX4_forget 7 = .ok (.istore_n 1, 1) := by decide +kernel
theorem dX4_forget_8 : decode cX4_forget 8 = .ok (.aload_n 0, 1) := by decide +kernel
theorem dX4_forget_9 : decode cX4_forget 9 = .ok (.getfield 10, 3) := by decide +kernel
theorem dX4_forget_12 : decode cX4_forget 12 = .ok (.iconst 0, 1) := by decide +kernel
theorem dX4_forget_13 : decode cX4_forget 13 = .ok (.putfield 158, 3) := by decide +kernel
theorem dX4_forget_16 : decode cX4_forget 16 = .ok (.iload_n 1, 1) := by decide +kernel
theorem dX4_forget_17 : decode cX4_forget 17 = .ok (.ireturn, 1) := by decide +kernel
set_option maxRecDepth 20000 in
theorem ggX4_hollow_X3_suspects : GoodIn wsX4_hollow wsX3_suspects := goodIn_r _ [5, 6, 7, 8, 9, 17, 18, 19, 20, 21, 22, 23, 24, 25, 26, 27] (by decide +kernel) (by decide +kernel)
set_option maxRecDepth 20000 in
theorem gX4_hollow_X3_suspects_n170 : GoodIn wsX4_hollow (wsX3_suspects) := ggX4_hollow_X3_suspects
theorem dX4_hollow_0 : decode cX4_hollow 0 = .ok (.aload_n 0, 1) := by decide +kernel
theorem dX4_hollow_1 : decode cX4_hollow 1 = .ok (.getfield 10, 3) := by decide +kernel
theorem dX4_hollow_4 : decode cX4_hollow 4 = .ok (.invokevirtual 170, 3) := by decide +kernel
theorem dX4_hollow_7 : decode cX4_hollow 7 = .ok (.ireturn, 1) := by decide +kernel
set_option maxRecDepth 20000 in
theorem ggX4_lay_X4_isWithin : GoodIn wsX4_lay wsX4_isWithin := goodIn_r _ [5] (by decide +kernel) (by decide +kernel)
set_option maxRecDepth 20000 in
theorem gX4_lay_X4_isWithin : GoodIn wsX4_lay (va_wsS RX4 46 yX4_isWithin wsX4_isWithin) := goodIn_app (goodIn_of _ (by decide +kernel)) ggX4_lay_X4_isWithin
set_option maxRecDepth 20000 in
theorem ggX4_lay_X3_suspects : GoodIn wsX4_lay wsX3_suspects := goodIn_r _ [9, 10, 11, 12, 13, 41, 42, 43, 44, 45, 46, 47, 48, 49, 50, 51] (by decide +kernel) (by decide +kernel)
set_option maxRecDepth 20000 in
theorem gX4_lay_X3_suspects_n170 : GoodIn wsX4_lay (wsX3_suspects) := ggX4_lay_X3_suspects
set_option maxRecDepth 20000 in
theorem ggX4_lay_J6_bitCount_0f7a4 : GoodIn wsX4_lay wsJ6_bitCount_0f7a4 := goodIn_r _ [17, 18, 19, 20] (by decide +kernel) (by decide +kernel)
set_option maxRecDepth 20000 in
theorem gX4_lay_J6_bitCount_0f7a4 : GoodIn wsX4_lay (va_wsS RX4 63 yJ6_bitCount_0f7a4 wsJ6_bitCount_0f7a4) := goodIn_app (goodIn_of _ (by decide +kernel)) ggX4_lay_J6_bitCount_0f7a4
set_option maxRecDepth 20000 in
theorem ggX4_lay_X4_fewestWeighings : GoodIn wsX4_lay wsX4_fewestWeighings := goodIn_r _ [23] (by decide +kernel) (by decide +kernel)
set_option maxRecDepth 20000 in
theorem gX4_lay_X4_fewestWeighings : GoodIn wsX4_lay (va_wsS RX4 173 yX4_fewestWeighings wsX4_fewestWeighings) := goodIn_app (goodIn_of _ (by decide +kernel)) ggX4_lay_X4_fewestWeighings
set_option maxRecDepth 20000 in
theorem ggX4_lay_X4_bestEach : GoodIn wsX4_lay wsX4_bestEach := goodIn_r _ [26, 27, 28, 4, 29, 30, 31, 32, 33] (by decide +kernel) (by decide +kernel)
set_option maxRecDepth 20000 in
theorem gX4_lay_X4_bestEach : GoodIn wsX4_lay (va_wsS RX4 176 yX4_bestEach wsX4_bestEach) := goodIn_app (goodIn_of _ (by decide +kernel)) ggX4_lay_X4_bestEach
set_option maxRecDepth 20000 in
theorem ggX4_lay_X4_mostLeft : GoodIn wsX4_lay wsX4_mostLeft := goodIn_r _ [29, 30, 31, 32, 33] (by decide +kernel) (by decide +kernel)
set_option maxRecDepth 20000 in
theorem gX4_lay_X4_mostLeft : GoodIn wsX4_lay (va_wsS RX4 179 yX4_mostLeft wsX4_mostLeft) := goodIn_app (goodIn_of _ (by decide +kernel)) ggX4_lay_X4_mostLeft
theorem dX4_lay_0 : decode cX4_lay 0 = .ok (.iload_n 1, 1) := by decide +kernel
theorem dX4_lay_1 : decode cX4_lay 1 = .ok (.iconst 0, 1) := by decide +kernel
theorem dX4_lay_2 : decode cX4_lay 2 = .ok (.iconst 2, 1) := by decide +kernel
theorem dX4_lay_3 : decode cX4_lay 3 = .ok (.invokestatic 46, 3) := by decide +kernel
theorem dX4_lay_6 : decode cX4_lay 6 = .ok (.ifCond .ne 6, 3) := by decide +kernel
theorem dX4_lay_9 : decode cX4_lay 9 = .ok (.bipush (-2), 2) := by decide +kernel
theorem dX4_lay_11 : decode cX4_lay 11 = .ok (.ireturn, 1) := by decide +kernel
theorem dX4_lay_12 : decode cX4_lay 12 = .ok (.aload_n 0, 1) := by decide +kernel
theorem dX4_lay_13 : decode cX4_lay 13 = .ok (.getfield 10, 3) := by decide +kernel
theorem dX4_lay_16 : decode cX4_lay 16 = .ok (.invokevirtual 170, 3) := by decide +kernel
theorem dX4_lay_19 : decode cX4_lay 19 = .ok (.invokestatic 63, 3) := by decide +kernel
theorem dX4_lay_22 : decode cX4_lay 22 = .ok (.istore_n 2, 1) := by decide +kernel
theorem dX4_lay_23 : decode cX4_lay 23 = .ok (.iload_n 1, 1) := by decide +kernel
theorem dX4_lay_24 : decode cX4_lay 24 = .ok (.iconst 2, 1) := by decide +kernel
theorem dX4_lay_25 : decode cX4_lay 25 = .ok (.if_icmp .ne 8, 3) := by decide +kernel
theorem dX4_lay_28 : decode cX4_lay 28 = .ok (.iload_n 2, 1) := by decide +kernel
theorem dX4_lay_29 : decode cX4_lay 29 = .ok (.invokestatic 173, 3) := by decide +kernel
theorem dX4_lay_32 : decode cX4_lay 32 = .ok (.ireturn, 1) := by decide +kernel
theorem dX4_lay_33 : decode cX4_lay 33 = .ok (.iload_n 2, 1) := by decide +kernel
theorem dX4_lay_34 : decode cX4_lay 34 = .ok (.ifCond .ne 6, 3) := by decide +kernel
theorem dX4_lay_37 : decode cX4_lay 37 = .ok (.bipush (-6), 2) := by decide +kernel
theorem dX4_lay_39 : decode cX4_lay 39 = .ok (.ireturn, 1) := by decide +kernel
theorem dX4_lay_40 : decode cX4_lay 40 = .ok (.iload_n 2, 1) := by decide +kernel
theorem dX4_lay_41 : decode cX4_lay 41 = .ok (.invokestatic 176, 3) := by decide +kernel
theorem dX4_lay_44 : decode cX4_lay 44 = .ok (.istore_n 3, 1) := by decide +kernel
theorem dX4_lay_45 : decode cX4_lay 45 = .ok (.iload_n 1, 1) := by decide +kernel
theorem dX4_lay_46 : decode cX4_lay 46 = .ok (.ifCond .ne 7, 3) := by decide +kernel
theorem dX4_lay_49 : decode cX4_lay 49 = .ok (.iload_n 3, 1) := by decide +kernel
theorem dX4_lay_50 : decode cX4_lay 50 = .ok (.goto 8, 3) := by decide +kernel
theorem dX4_lay_53 : decode cX4_lay 53 = .ok (.iload_n 2, 1) := by decide +kernel
theorem dX4_lay_54 : decode cX4_lay 54 = .ok (.iload_n 3, 1) := by decide +kernel
theorem dX4_lay_55 : decode cX4_lay 55 = .ok (.invokestatic 179, 3) := by decide +kernel
theorem dX4_lay_58 : decode cX4_lay 58 = .ok (.ireturn, 1) := by decide +kernel
set_option maxRecDepth 20000 in
theorem ggX4_weather_X4_isWithin : GoodIn wsX4_weather wsX4_isWithin := goodIn_r _ [8] (by decide +kernel) (by decide +kernel)
set_option maxRecDepth 20000 in
theorem gX4_weather_X4_isWithin : GoodIn wsX4_weather (va_wsS RX4 46 yX4_isWithin wsX4_isWithin) := goodIn_app (goodIn_of _ (by decide +kernel)) ggX4_weather_X4_isWithin
set_option maxRecDepth 20000 in
theorem ggX4_weather_X4_bestMean : GoodIn wsX4_weather wsX4_bestMean := goodIn_r _ [12, 13, 2, 14, 15, 16, 17, 5, 6, 7, 8, 21, 22, 23, 24, 25, 26, 27] (by decide +kernel) (by decide +kernel)
set_option maxRecDepth 20000 in
theorem gX4_weather_X4_bestMean : GoodIn wsX4_weather (wsV RX4 184 RX4 yX4_bestMean wsX4_bestMean) := goodIn_app (goodIn_of _ (by decide +kernel)) ggX4_weather_X4_bestMean
set_option maxRecDepth 20000 in
theorem ggX4_weather_X4_power : GoodIn wsX4_weather wsX4_power := goodIn_r _ [20] (by decide +kernel) (by decide +kernel)
set_option maxRecDepth 20000 in
theorem gX4_weather_X4_power : GoodIn wsX4_weather (va_wsS RX4 135 yX4_power wsX4_power) := goodIn_app (goodIn_of _ (by decide +kernel)) ggX4_weather_X4_power
theorem dX4_weather_0 : decode cX4_weather 0 = .ok (.iload_n 1, 1) := by decide +kernel
theorem dX4_weather_1 : decode cX4_weather 1 = .ok (.iconst 0, 1) := by decide +kernel
theorem dX4_weather_2 : decode cX4_weather 2 = .ok (.bipush 40, 2) := by decide +kernel
theorem dX4_weather_4 : decode cX4_weather 4 = .ok (.invokestatic 46, 3) := by decide +kernel
theorem dX4_weather_7 : decode cX4_weather 7 = .ok (.ifCond .eq 27, 3) := by decide +kernel
theorem dX4_weather_10 : decode cX4_weather 10 = .ok (.iload_n 2, 1) := by decide +kernel
theorem dX4_weather_11 : decode cX4_weather 11 = .ok (.iconst 0, 1) := by decide +kernel
theorem dX4_weather_12 : decode cX4_weather 12 = .ok (.bipush 8, 2) := by decide +kernel
theorem dX4_weather_14 : decode cX4_weather 14 = .ok (.invokestatic 46, 3) := by decide +kernel
theorem dX4_weather_17 : decode cX4_weather 17 = .ok (.ifCond .eq 17, 3) := by decide +kernel
theorem dX4_weather_20 : decode cX4_weather 20 = .ok (.iload_n 3, 1) := by decide +kernel
theorem dX4_weather_21 : decode cX4_weather 21 = .ok (.iconst 0, 1) := by decide +kernel
theorem dX4_weather_22 : decode cX4_weather 22 = .ok (.bipush 10, 2) := by decide +kernel
theorem dX4_weather_24 : decode cX4_weather 24 = .ok (.invokestatic 46, 3) := by decide +kernel
theorem dX4_weather_27 : decode cX4_weather 27 = .ok (.ifCond .eq 7, 3) := by decide +kernel
theorem dX4_weather_30 : decode cX4_weather 30 = .ok (.iconst 1, 1) := by decide +kernel
theorem dX4_weather_31 : decode cX4_weather 31 = .ok (.goto 4, 3) := by decide +kernel
theorem dX4_weather_34 : decode cX4_weather 34 = .ok (.iconst 0, 1) := by decide +kernel
theorem dX4_weather_35 : decode cX4_weather 35 = .ok (.istore 6, 2) := by decide +kernel
theorem dX4_weather_37 : decode cX4_weather 37 = .ok (.iload 6, 2) := by decide +kernel
theorem dX4_weather_39 : decode cX4_weather 39 = .ok (.ifCond .eq 23, 3) := by decide +kernel
theorem dX4_weather_42 : decode cX4_weather 42 = .ok (.iload 4, 2) := by decide +kernel
theorem dX4_weather_44 : decode cX4_weather 44 = .ok (.iconst 0, 1) := by decide +kernel
theorem dX4_weather_45 : decode cX4_weather 45 = .ok (.iconst 1, 1) := by decide +kernel
theorem dX4_weather_46 : decode cX4_weather 46 = .ok (.invokestatic 46, 3) := by decide +kernel
theorem dX4_weather_49 : decode cX4_weather 49 = .ok (.ifCond .eq 13, 3) := by decide +kernel
theorem dX4_weather_52 : decode cX4_weather 52 = .ok (.iload 5, 2) := by decide +kernel
theorem dX4_weather_54 : decode cX4_weather 54 = .ok (.iconst 0, 1) := by decide +kernel
theorem dX4_weather_55 : decode cX4_weather 55 = .ok (.iconst 1, 1) := by decide +kernel
theorem dX4_weather_56 : decode cX4_weather 56 = .ok (.invokestatic 46, 3) := by decide +kernel
theorem dX4_weather_59 : decode cX4_weather 59 = .ok (.ifCond .ne 7, 3) := by decide +kernel
theorem dX4_weather_62 : decode cX4_weather 62 = .ok (.ldc2_w 182, 3) := by decide +kernel
theorem dX4_weather_65 : decode cX4_weather 65 = .ok (.lreturn, 1) := by decide +kernel
theorem dX4_weather_66 : decode cX4_weather 66 = .ok (.aload_n 0, 1) := by decide +kernel
theorem dX4_weather_67 : decode cX4_weather 67 = .ok (.iload_n 1, 1) := by decide +kernel
theorem dX4_weather_68 : decode cX4_weather 68 = .ok (.iload_n 2, 1) := by decide +kernel
theorem dX4_weather_69 : decode cX4_weather 69 = .ok (.iload_n 3, 1) := by decide +kernel
theorem dX4_weather_70 : decode cX4_weather 70 = .ok (.invokevirtual 184, 3) := by decide +kernel
theorem dX4_weather_73 : decode cX4_weather 73 = .ok (.lstore 7, 2) := by decide +kernel
theorem dX4_weather_75 : decode cX4_weather 75 = .ok (.ldc2_w 188, 3) := by decide +kernel
theorem dX4_weather_78 : decode cX4_weather 78 = .ok (.iload_n 2, 1) := by decide +kernel
theorem dX4_weather_79 : decode cX4_weather 79 = .ok (.invokestatic 135, 3) := by decide +kernel
theorem dX4_weather_82 : decode cX4_weather 82 = .ok (.lstore 9, 2) := by decide +kernel
theorem dX4_weather_84 : decode cX4_weather 84 = .ok (.iload 4, 2) := by decide +kernel
theorem dX4_weather_86 : decode cX4_weather 86 = .ok (.iconst 1, 1) := by decide +kernel
theorem dX4_weather_87 : decode cX4_weather 87 = .ok (.if_icmp .ne 20, 3) := by decide +kernel
theorem dX4_weather_90 : decode cX4_weather 90 = .ok (.lload 7, 2) := by decide +kernel
theorem dX4_weather_92 : decode cX4_weather 92 = .ok (.iload_n 1, 1) := by decide +kernel
theorem dX4_weather_93 : decode cX4_weather 93 = .ok (.i2l, 1) := by decide +kernel
theorem dX4_weather_94 : decode cX4_weather 94 = .ok (.lload 9, 2) := by decide +kernel
theorem dX4_weather_96 : decode cX4_weather 96 = .ok (.lmul, 1) := by decide +kernel
theorem dX4_weather_97 : decode cX4_weather 97 = .ok (.lcmp, 1) := by decide +kernel
theorem dX4_weather_98 : decode cX4_weather 98 = .ok (.ifCond .ne 7, 3) := by decide +kernel
theorem dX4_weather_101 : decode cX4_weather 101 = .ok (.lconst 1, 1) := by decide +kernel
theorem dX4_weather_102 : decode cX4_weather 102 = .ok (.goto 4, 3) := by decide +kernel
theorem dX4_weather_105 : decode cX4_weather 105 = .ok (.lconst 0, 1) := by decide +kernel
theorem dX4_weather_106 : decode cX4_weather 106 = .ok (.lreturn, 1) := by decide +kernel
theorem dX4_weather_107 : decode cX4_weather 107 = .ok (.iconst 0, 1) := by decide +kernel
theorem dX4_weather_108 : decode cX4_weather 108 = .ok (.istore 11, 2) := by decide +kernel
theorem dX4_weather_110 : decode cX4_weather 110 = .ok (.iload 11, 2) := by decide +kernel
theorem dX4_weather_112 : decode cX4_weather 112 = .ok (.iload_n 2, 1) := by decide +kernel
theorem dX4_weather_113 : decode cX4_weather 113 = .ok (.if_icmp .ge 85, 3) := by decide +kernel
theorem dX4_weather_116 : decode cX4_weather 116 = .ok (.lload 7, 2) := by decide +kernel
theorem dX4_weather_118 : decode cX4_weather 118 = .ok (.ldc2_w 190, 3) := by decide +kernel
theorem dX4_weather_121 : decode cX4_weather 121 = .ok (.lrem, 1) := by decide +kernel
theorem dX4_weather_122 : decode cX4_weather 122 = .ok (.lconst 0, 1) := by decide +kernel
theorem dX4_weather_123 : decode cX4_weather 123 = .ok (.lcmp, 1) := by decide +kernel
theorem dX4_weather_124 : decode cX4_weather 124 = .ok (.ifCond .ne 30, 3) := by decide +kernel
theorem dX4_weather_127 : decode cX4_weather 127 = .ok (.lload 9, 2) := by decide +kernel
theorem dX4_weather_129 : decode cX4_weather 129 = .ok (.ldc2_w 190, 3) := by decide +kernel
theorem dX4_weather_132 : decode cX4_weather 132 = .ok (.lrem, 1) := by decide +kernel
theorem dX4_weather_133 : decode cX4_weather 133 = .ok (.lconst 0, 1) := by decide +kernel
theorem dX4_weather_134 : decode cX4_weather 134 = .ok (.lcmp, 1) := by decide +kernel
theorem dX4_weather_135 : decode cX4_weather 135 = .ok (.ifCond .ne 19, 3) := by decide +kernel
theorem dX4_weather_138 : decode cX4_weather 138 = .ok (.lload 7, 2) := by decide +kernel
theorem dX4_weather_140 : decode cX4_weather 140 = .ok (.ldc2_w 190, 3) := by decide +kernel
theorem dX4_weather_143 : decode cX4_weather 143 = .ok (.ldiv, 1) := by decide +kernel
theorem dX4_weather_144 : decode cX4_weather 144 = .ok (.lstore 7, 2) := by decide +kernel
theorem dX4_weather_146 : decode cX4_weather 146 = .ok (.lload 9, 2) := by decide +kernel
theorem dX4_weather_148 : decode cX4_weather 148 = .ok (.ldc2_w 190, 3) := by decide +kernel
theorem dX4_weather_151 : decode cX4_weather 151 = .ok (.ldiv, 1) := by decide +kernel
theorem dX4_weather_152 : decode cX4_weather 152 = .ok (.lstore 9, 2) := by decide +kernel
theorem dX4_weather_154 : decode cX4_weather 154 = .ok (.lload 7, 2) := by decide +kernel
theorem dX4_weather_156 : decode cX4_weather 156 = .ok (.ldc2_w 192, 3) := by decide +kernel
theorem dX4_weather_159 : decode cX4_weather 159 = .ok (.lrem, 1) := by decide +kernel
theorem dX4_weather_160 : decode cX4_weather 160 = .ok (.lconst 0, 1) := by decide +kernel
theorem dX4_weather_161 : decode cX4_weather 161 = .ok (.lcmp, 1) := by decide +kernel
theorem dX4_weather_162 : decode cX4_weather 162 = .ok (.ifCond .ne 30, 3) := by decide +kernel
theorem dX4_weather_165 : decode cX4_weather 165 = .ok (.lload 9, 2) := by decide +kernel
theorem dX4_weather_167 : decode cX4_weather 167 = .ok (.ldc2_w 192, 3) := by decide +kernel
theorem dX4_weather_170 : decode cX4_weather 170 = .ok (.lrem, 1) := by decide +kernel
theorem dX4_weather_171 : decode cX4_weather 171 = .ok (.lconst 0, 1) := by decide +kernel
theorem dX4_weather_172 : decode cX4_weather 172 = .ok (.lcmp, 1) := by decide +kernel
theorem dX4_weather_173 : decode cX4_weather 173 = .ok (.ifCond .ne 19, 3) := by decide +kernel
theorem dX4_weather_176 : decode cX4_weather 176 = .ok (.lload 7, 2) := by decide +kernel
theorem dX4_weather_178 : decode cX4_weather 178 = .ok (.ldc2_w 192, 3) := by decide +kernel
theorem dX4_weather_181 : decode cX4_weather 181 = .ok (.ldiv, 1) := by decide +kernel
theorem dX4_weather_182 : decode cX4_weather 182 = .ok (.lstore 7, 2) := by decide +kernel
theorem dX4_weather_184 : decode cX4_weather 184 = .ok (.lload 9, 2) := by decide +kernel
theorem dX4_weather_186 : decode cX4_weather 186 = .ok (.ldc2_w 192, 3) := by decide +kernel
theorem dX4_weather_189 : decode cX4_weather 189 = .ok (.ldiv, 1) := by decide +kernel
theorem dX4_weather_190 : decode cX4_weather 190 = .ok (.lstore 9, 2) := by decide +kernel
theorem dX4_weather_192 : decode cX4_weather 192 = .ok (.iinc 11 1, 3) := by decide +kernel
theorem dX4_weather_195 : decode cX4_weather 195 = .ok (.goto (-85), 3) := by decide +kernel
theorem dX4_weather_198 : decode cX4_weather 198 = .ok (.iload 5, 2) := by decide +kernel
theorem dX4_weather_200 : decode cX4_weather 200 = .ok (.ifCond .ne 8, 3) := by decide +kernel
theorem dX4_weather_203 : decode cX4_weather 203 = .ok (.lload 7, 2) := by decide +kernel
theorem dX4_weather_205 : decode cX4_weather 205 = .ok (.goto 5, 3) := by decide +kernel
theorem dX4_weather_208 : decode cX4_weather 208 = .ok (.lload 9, 2) := by decide +kernel
theorem dX4_weather_210 : decode cX4_weather 210 = .ok (.lreturn, 1) := by decide +kernel
set_option maxRecDepth 20000 in
theorem ggX4_synonyms_X4_isWithin : GoodIn wsX4_synonyms wsX4_isWithin := goodIn_r _ [4] (by decide +kernel) (by decide +kernel)
set_option maxRecDepth 20000 in
theorem gX4_synonyms_X4_isWithin : GoodIn wsX4_synonyms (va_wsS RX4 46 yX4_isWithin wsX4_isWithin) := goodIn_app (goodIn_of _ (by decide +kernel)) ggX4_synonyms_X4_isWithin
theorem dX4_synonyms_0 : decode cX4_synonyms 0 = .ok (.iload_n 1, 1) := by decide +kernel
theorem dX4_synonyms_1 : decode cX4_synonyms 1 = .ok (.iconst 0, 1) := by decide +kernel
theorem dX4_synonyms_2 : decode cX4_synonyms 2 = .ok (.bipush 40, 2) := by decide +kernel
theorem dX4_synonyms_4 : decode cX4_synonyms 4 = .ok (.invokestatic 46, 3) := by decide +kernel
theorem dX4_synonyms_7 : decode cX4_synonyms 7 = .ok (.ifCond .eq 29, 3) := by decide +kernel
theorem dX4_synonyms_10 : decode cX4_synonyms 10 = .ok (.iload_n 2, 1) := by decide +kernel
theorem dX4_synonyms_11 : decode cX4_synonyms 11 = .ok (.iconst 0, 1) := by decide +kernel
theorem dX4_synonyms_12 : decode cX4_synonyms 12 = .ok (.bipush 20, 2) := by decide +kernel
theorem dX4_synonyms_14 : decode cX4_synonyms 14 = .ok (.invokestatic 46, 3) := by decide +kernel
theorem dX4_synonyms_17 : decode cX4_synonyms 17 = .ok (.ifCond .eq 19, 3) := by decide +kernel
theorem dX4_synonyms_20 : decode cX4_synonyms 20 = .ok (.iload_n 3, 1) := by decide +kernel
theorem dX4_synonyms_21 : decode cX4_synonyms 21 = .ok (.iload_n 2, 1) := by decide +kernel
theorem dX4_synonyms_22 : decode cX4_synonyms 22 = .ok (.iconst 1, 1) := by decide +kernel
theorem dX4_synonyms_23 : decode cX4_synonyms 23 = .ok (.iadd, 1) := by decide +kernel
theorem dX4_synonyms_24 : decode cX4_synonyms 24 = .ok (.bipush 40, 2) := by decide +kernel
theorem dX4_synonyms_26 : decode cX4_synonyms 26 = .ok (.invokestatic 46, 3) := by decide +kernel
theorem dX4_synonyms_29 : decode cX4_synonyms 29 = .ok (.ifCond .eq 7, 3) := by decide +kernel
theorem dX4_synonyms_32 : decode cX4_synonyms 32 = .ok (.iconst 1, 1) := by decide +kernel
theorem dX4_synonyms_33 : decode cX4_synonyms 33 = .ok (.goto 4, 3) := by decide +kernel
theorem dX4_synonyms_36 : decode cX4_synonyms 36 = .ok (.iconst 0, 1) := by decide +kernel
theorem dX4_synonyms_37 : decode cX4_synonyms 37 = .ok (.istore 5, 2) := by decide +kernel
theorem dX4_synonyms_39 : decode cX4_synonyms 39 = .ok (.iload 5, 2) := by decide +kernel
theorem dX4_synonyms_41 : decode cX4_synonyms 41 = .ok (.ifCond .eq 14, 3) := by decide +kernel
theorem dX4_synonyms_44 : decode cX4_synonyms 44 = .ok (.iload 4, 2) := by decide +kernel
theorem dX4_synonyms_46 : decode cX4_synonyms 46 = .ok (.iconst (-1), 1) := by decide +kernel
theorem dX4_synonyms_47 : decode cX4_synonyms 47 = .ok (.bipush 99, 2) := by decide +kernel
theorem dX4_synonyms_49 : decode cX4_synonyms 49 = .ok (.invokestatic 46, 3) := by decide +kernel
theorem dX4_synonyms_52 : decode cX4_synonyms 52 = .ok (.ifCond .ne 6, 3) := by decide +kernel
theorem dX4_synonyms_55 : decode cX4_synonyms 55 = .ok (.bipush (-2), 2) := by decide +kernel
theorem dX4_synonyms_57 : decode cX4_synonyms 57 = .ok (.ireturn, 1) := by decide +kernel
theorem dX4_synonyms_58 : decode cX4_synonyms 58 = .ok (.iload 4, 2) := by decide +kernel
theorem dX4_synonyms_60 : decode cX4_synonyms 60 = .ok (.iconst (-1), 1) := by decide +kernel
theorem dX4_synonyms_61 : decode cX4_synonyms 61 = .ok (.if_icmp .ne 7, 3) := by decide +kernel
theorem dX4_synonyms_64 : decode cX4_synonyms 64 = .ok (.iload_n 3, 1) := by decide +kernel
theorem dX4_synonyms_65 : decode cX4_synonyms 65 = .ok (.iload_n 2, 1) := by decide +kernel
theorem dX4_synonyms_66 : decode cX4_synonyms 66 = .ok (.isub, 1) := by decide +kernel
theorem dX4_synonyms_67 : decode cX4_synonyms 67 = .ok (.ireturn, 1) := by decide +kernel
theorem dX4_synonyms_68 : decode cX4_synonyms 68 = .ok (.iload_n 1, 1) := by decide +kernel
theorem dX4_synonyms_69 : decode cX4_synonyms 69 = .ok (.istore 6, 2) := by decide +kernel
theorem dX4_synonyms_71 : decode cX4_synonyms 71 = .ok (.iconst 0, 1) := by decide +kernel
theorem dX4_synonyms_72 : decode cX4_synonyms 72 = .ok (.istore 7, 2) := by decide +kernel
theorem dX4_synonyms_74 : decode cX4_synonyms 74 = .ok (.iload 7, 2) := by decide +kernel
theorem dX4_synonyms_76 : decode cX4_synonyms 76 = .ok (.iload 4, 2) := by decide +kernel
theorem dX4_synonyms_78 : decode cX4_synonyms 78 = .ok (.if_icmp .ge 27, 3) := by decide +kernel
theorem dX4_synonyms_81 : decode cX4_synonyms 81 = .ok (.iload 6, 2) := by decide +kernel
theorem dX4_synonyms_83 : decode cX4_synonyms 83 = .ok (.iconst 1, 1) := by decide +kernel
theorem dX4_synonyms_84 : decode cX4_synonyms 84 = .ok (.isub, 1) := by decide +kernel
theorem dX4_synonyms_85 : decode cX4_synonyms 85 = .ok (.iload_n 2, 1) := by decide +kernel
theorem dX4_synonyms_86 : decode cX4_synonyms 86 = .ok (.if_icmp .le 10, 3) := by decide +kernel
theorem dX4_synonyms_89 : decode cX4_synonyms 89 = .ok (.iload 6, 2) := by decide +kernel
theorem dX4_synonyms_91 : decode cX4_synonyms 91 = .ok (.iconst 1, 1) := by decide +kernel
theorem dX4_synonyms_92 : decode cX4_synonyms 92 = .ok (.isub, 1) := by decide +kernel
theorem dX4_synonyms_93 : decode cX4_synonyms 93 = .ok (.goto 4, 3) := by decide +kernel
theorem dX4_synonyms_96 : decode cX4_synonyms 96 = .ok (.iload_n 3, 1) := by decide +kernel
theorem dX4_synonyms_97 : decode cX4_synonyms 97 = .ok (.istore 6, 2) := by decide +kernel
theorem dX4_synonyms_99 : decode cX4_synonyms 99 = .ok (.iinc 7 1, 3) := by decide +kernel
theorem dX4_synonyms_102 : decode cX4_synonyms 102 = .ok (.goto (-28), 3) := by decide +kernel
theorem dX4_synonyms_105 : decode cX4_synonyms 105 = .ok (.iload 6, 2) := by decide +kernel
theorem dX4_synonyms_107 : decode cX4_synonyms 107 = .ok (.ireturn, 1) := by decide +kernel
set_option maxRecDepth 20000 in
theorem ggX4_year_X4_isWithin : GoodIn wsX4_year wsX4_isWithin := goodIn_r _ [6] (by decide +kernel) (by decide +kernel)
set_option maxRecDepth 20000 in
theorem gX4_year_X4_isWithin : GoodIn wsX4_year (va_wsS RX4 46 yX4_isWithin wsX4_isWithin) := goodIn_app (goodIn_of _ (by decide +kernel)) ggX4_year_X4_isWithin
set_option maxRecDepth 20000 in
theorem ggX4_year_X3_copyFrom : GoodIn wsX4_year wsX3_copyFrom := goodIn_r _ [10, 11, 12, 13, 14, 15, 16, 17, 18, 19, 20, 21, 22, 5, 23, 81, 82, 83, 84, 85, 86, 87, 88, 89, 90, 91] (by decide +kernel) (by decide +kernel)
set_option maxRecDepth 20000 in
theorem gX4_year_X3_copyFrom_n117 : GoodIn wsX4_year (wsX3_copyFrom) := ggX4_year_X3_copyFrom
set_option maxRecDepth 20000 in
theorem ggX4_year_X3_liveYear : GoodIn wsX4_year wsX3_liveYear := goodIn_r _ [26, 27, 28, 29, 8, 30, 31, 32, 33, 34, 35, 5, 36, 3, 4, 6, 37, 38, 39, 40, 41, 42, 15, 14, 11, 43, 44, 45, 46, 47, 48, 49, 50, 51, 52, 53, 54, 55, 56, 57, 58, 59, 60, 81, 82, 83, 84, 85, 86, 87, 88, 89, 90, 91] (by decide +kernel) (by decide +kernel)
set_option maxRecDepth 20000 in
theorem gX4_year_X3_liveYear_n194 : GoodIn wsX4_year (wsX3_liveYear) := ggX4_year_X3_liveYear
set_option maxRecDepth 20000 in
theorem ggX4_year_X3_countBelongings : GoodIn wsX4_year wsX3_countBelongings := goodIn_r _ [63, 15, 64, 65, 66, 67, 68, 69, 70, 81, 82, 83, 84, 85, 86, 87, 88, 89, 90, 91] (by decide +kernel) (by decide +kernel)
set_option maxRecDepth 20000 in
theorem gX4_year_X3_countBelongings_n197 : GoodIn wsX4_year (wsX3_countBelongings) := ggX4_year_X3_countBelongings
set_option maxRecDepth 20000 in
theorem ggX4_year_X4_sumOf : GoodIn wsX4_year wsX4_sumOf := goodIn_r _ [73] (by decide +kernel) (by decide +kernel)
set_option maxRecDepth 20000 in
theorem gX4_year_X4_sumOf : GoodIn wsX4_year (va_wsS RX4 200 yX4_sumOf wsX4_sumOf) := goodIn_app (goodIn_of _ (by decide +kernel)) ggX4_year_X4_sumOf
theorem dX4_year_0 : decode cX4_year 0 = .ok (.iload_n 1, 1) := by decide +kernel
theorem dX4_year_1 : decode cX4_year 1 = .ok (.iconst 0, 1) := by decide +kernel
theorem dX4_year_2 : decode cX4_year 2 = .ok (.sipush 9999, 3) := by decide +kernel
theorem dX4_year_5 : decode cX4_year 5 = .ok (.invokestatic 46, 3) := by decide +kernel
theorem dX4_year_8 : decode cX4_year 8 = .ok (.ifCond .eq 22, 3) := by decide +kernel
theorem dX4_year_11 : decode cX4_year 11 = .ok (.iload_n 2, 1) := by decide +kernel
theorem dX4_year_12 : decode cX4_year 12 = .ok (.iconst 1, 1) := by decide +kernel
theorem dX4_year_13 : decode cX4_year 13 = .ok (.bipush 99, 2) := by decide +kernel
theorem dX4_year_15 : decode cX4_year 15 = .ok (.invokestatic 46, 3) := by decide +kernel
theorem dX4_year_18 : decode cX4_year 18 = .ok (.ifCond .eq 12, 3) := by decide +kernel
theorem dX4_year_21 : decode cX4_year 21 = .ok (.iload_n 3, 1) := by decide +kernel
theorem dX4_year_22 : decode cX4_year 22 = .ok (.iconst 0, 1) := by decide +kernel
theorem dX4_year_23 : decode cX4_year 23 = .ok (.iconst 2, 1) := by decide +kernel
theorem dX4_year_24 : decode cX4_year 24 = .ok (.invokestatic 46, 3) := by decide +kernel
theorem dX4_year_27 : decode cX4_year 27 = .ok (.ifCond .ne 6, 3) := by decide +kernel
theorem dX4_year_30 : decode cX4_year 30 = .ok (.bipush (-2), 2) := by decide +kernel
theorem dX4_year_32 : decode cX4_year 32 = .ok (.ireturn, 1) := by decide +kernel
theorem dX4_year_33 : decode cX4_year 33 = .ok (.aload_n 0, 1) := by decide +kernel
theorem dX4_year_34 : decode cX4_year 34 = .ok (.getfield 16, 3) := by decide +kernel
theorem dX4_year_37 : decode cX4_year 37 = .ok (.aload_n 0, 1) := by decide +kernel
theorem dX4_year_38 : decode cX4_year 38 = .ok (.getfield 10, 3) := by decide +kernel
theorem dX4_year_41 : decode cX4_year 41 = .ok (.invokevirtual 117, 3) := by decide +kernel
theorem dX4_year_44 : decode cX4_year 44 = .ok (.aload_n 0, 1) := by decide +kernel
theorem dX4_year_45 : decode cX4_year 45 = .ok (.getfield 16, 3) := by decide +kernel
theorem dX4_year_48 : decode cX4_year 48 = .ok (.iload_n 1, 1) := by decide +kernel
theorem dX4_year_49 : decode cX4_year 49 = .ok (.iload_n 2, 1) := by decide +kernel
theorem dX4_year_50 : decode cX4_year 50 = .ok (.invokevirtual 194, 3) := by decide +kernel
theorem dX4_year_53 : decode cX4_year 53 = .ok (.iload_n 3, 1) := by decide +kernel
theorem dX4_year_54 : decode cX4_year 54 = .ok (.iconst 2, 1) := by decide +kernel
theorem dX4_year_55 : decode cX4_year 55 = .ok (.if_icmp .ne 11, 3) := by decide +kernel
theorem dX4_year_58 : decode cX4_year 58 = .ok (.aload_n 0, 1) := by decide +kernel
theorem dX4_year_59 : decode cX4_year 59 = .ok (.getfield 16, 3) := by decide +kernel
theorem dX4_year_62 : decode cX4_year 62 = .ok (.invokevirtual 197, 3) := by decide +kernel
theorem dX4_year_65 : decode cX4_year 65 = .ok (.ireturn, 1) := by decide +kernel
theorem dX4_year_66 : decode cX4_year 66 = .ok (.iload_n 3, 1) := by decide +kernel
theorem dX4_year_67 : decode cX4_year 67 = .ok (.ifCond .ne 16, 3) := by decide +kernel
theorem dX4_year_70 : decode cX4_year 70 = .ok (.aload_n 0, 1) := by decide +kernel
theorem dX4_year_71 : decode cX4_year 71 = .ok (.getfield 16, 3) := by decide +kernel
theorem dX4_year_74 : decode cX4_year 74 = .ok (.getfield 79, 3) := by decide +kernel
theorem dX4_year_77 : decode cX4_year 77 = .ok (.invokestatic 200, 3) := by decide +kernel
theorem dX4_year_80 : decode cX4_year 80 = .ok (.goto 13, 3) := by decide +kernel
theorem dX4_year_83 : decode cX4_year 83 = .ok (.aload_n 0, 1) := by decide +kernel
theorem dX4_year_84 : decode cX4_year 84 = .ok (.getfield 16, 3) := by decide +kernel
theorem dX4_year_87 : decode cX4_year 87 = .ok (.getfield 50, 3) := by decide +kernel
theorem dX4_year_90 : decode cX4_year 90 = .ok (.invokestatic 200, 3) := by decide +kernel
theorem dX4_year_93 : decode cX4_year 93 = .ok (.ireturn, 1) := by decide +kernel
set_option maxRecDepth 20000 in
theorem ggX4_image_X4_isWithin : GoodIn wsX4_image wsX4_isWithin := goodIn_r _ [9] (by decide +kernel) (by decide +kernel)
set_option maxRecDepth 20000 in
theorem gX4_image_X4_isWithin : GoodIn wsX4_image (va_wsS RX4 46 yX4_isWithin wsX4_isWithin) := goodIn_app (goodIn_of _ (by decide +kernel)) ggX4_image_X4_isWithin
set_option maxRecDepth 20000 in
theorem ggX4_image_X3_init : GoodIn wsX4_image wsX3_init := goodIn_r _ [11, 12, 13, 14, 15, 16, 17, 18, 19, 20, 21, 22, 23, 24, 25, 26, 39, 40, 41, 42, 43, 44, 45, 46, 47, 48, 49] (by decide +kernel) (by decide +kernel)
set_option maxRecDepth 20000 in
theorem gX4_image_X3_init_n9 : GoodIn wsX4_image (wsX3_init) := ggX4_image_X3_init
set_option maxRecDepth 20000 in
theorem ggX4_image_X3_copyFrom : GoodIn wsX4_image wsX3_copyFrom := goodIn_r _ [29, 16, 17, 18, 19, 20, 21, 22, 23, 24, 25, 26, 30, 8, 31, 39, 40, 41, 42, 43, 44, 45, 46, 47, 48, 49] (by decide +kernel) (by decide +kernel)
set_option maxRecDepth 20000 in
theorem gX4_image_X3_copyFrom_n117 : GoodIn wsX4_image (wsX3_copyFrom) := ggX4_image_X3_copyFrom
theorem dX4_image_0 : decode cX4_image 0 = .ok (.iload_n 1, 1) := by decide +kernel
theorem dX4_image_1 : decode cX4_image 1 = .ok (.iconst 0, 1) := by decide +kernel
theorem dX4_image_2 : decode cX4_image 2 = .ok (.iconst 1, 1) := by decide +kernel
theorem dX4_image_3 : decode cX4_image 3 = .ok (.invokestatic 46, 3) := by decide +kernel
theorem dX4_image_6 : decode cX4_image 6 = .ok (.ifCond .ne 6, 3) := by decide +kernel
theorem dX4_image_9 : decode cX4_image 9 = .ok (.bipush (-2), 2) := by decide +kernel
theorem dX4_image_11 : decode cX4_image 11 = .ok (.ireturn, 1) := by decide +kernel
theorem dX4_image_12 : decode cX4_image 12 = .ok (.aload_n 0, 1) := by decide +kernel
theorem dX4_image_13 : decode cX4_image 13 = .ok (.getfield 19, 3) := by decide +kernel
theorem dX4_image_16 : decode cX4_image 16 = .ok (.iload_n 1, 1) := by decide +kernel
theorem dX4_image_17 : decode cX4_image 17 = .ok (.aaload, 1) := by decide +kernel
theorem dX4_image_18 : decode cX4_image 18 = .ok (.astore_n 2, 1) := by decide +kernel
theorem dX4_image_19 : decode cX4_image 19 = .ok (.aload_n 2, 1) := by decide +kernel
theorem dX4_image_20 : decode cX4_image 20 = .ok (.ifnonnull 18, 3) := by decide +kernel
theorem dX4_image_23 : decode cX4_image 23 = .ok (.new 7, 3) := by decide +kernel
theorem dX4_image_26 : decode cX4_image 26 = .ok (.dup, 1) := by decide +kernel
theorem dX4_image_27 : decode cX4_image 27 = .ok (.invokespecial 9, 3) := by decide +kernel
theorem dX4_image_30 : decode cX4_image 30 = .ok (.astore_n 2, 1) := by decide +kernel
theorem dX4_image_31 : decode cX4_image 31 = .ok (.aload_n 0, 1) := by decide +kernel
theorem dX4_image_32 : decode cX4_image 32 = .ok (.getfield 19, 3) := by decide +kernel
theorem dX4_image_35 : decode cX4_image 35 = .ok (.iload_n 1, 1) := by decide +kernel
theorem dX4_image_36 : decode cX4_image 36 = .ok (.aload_n 2, 1) := by decide +kernel
theorem dX4_image_37 : decode cX4_image 37 = .ok (.aastore, 1) := by decide +kernel
theorem dX4_image_38 : decode cX4_image 38 = .ok (.aload_n 2, 1) := by decide +kernel
theorem dX4_image_39 : decode cX4_image 39 = .ok (.aload_n 0, 1) := by decide +kernel
theorem dX4_image_40 : decode cX4_image 40 = .ok (.getfield 10, 3) := by decide +kernel
theorem dX4_image_43 : decode cX4_image 43 = .ok (.invokevirtual 117, 3) := by decide +kernel
theorem dX4_image_46 : decode cX4_image 46 = .ok (.iconst 1, 1) := by decide +kernel
theorem dX4_image_47 : decode cX4_image 47 = .ok (.ireturn, 1) := by decide +kernel
set_option maxRecDepth 20000 in
theorem ggX4_restore_X4_isWithin : GoodIn wsX4_restore wsX4_isWithin := goodIn_r _ [6] (by decide +kernel) (by decide +kernel)
set_option maxRecDepth 20000 in
theorem gX4_restore_X4_isWithin : GoodIn wsX4_restore (va_wsS RX4 46 yX4_isWithin wsX4_isWithin) := goodIn_app (goodIn_of _ (by decide +kernel)) ggX4_restore_X4_isWithin
set_option maxRecDepth 20000 in
theorem ggX4_restore_X3_copyFrom : GoodIn wsX4_restore wsX3_copyFrom := goodIn_r _ [10, 11, 12, 13, 14, 15, 16, 17, 18, 19, 20, 21, 22, 5, 23, 31, 32, 33, 34, 35, 36, 37, 38, 39, 40, 41] (by decide +kernel) (by decide +kernel)
set_option maxRecDepth 20000 in
theorem gX4_restore_X3_copyFrom_n117 : GoodIn wsX4_restore (wsX3_copyFrom) := ggX4_restore_X3_copyFrom
theorem dX4_restore_0 : decode cX4_restore 0 = .ok (.iload_n 1, 1) := by decide +kernel
theorem dX4_restore_1 : decode cX4_restore 1 = .ok (.iconst 0, 1) := by decide +kernel
theorem dX4_restore_2 : decode cX4_restore 2 = .ok (.iconst 1, 1) := by decide +kernel
theorem dX4_restore_3 : decode cX4_restore 3 = .ok (.invokestatic 46, 3) := by decide +kernel
theorem dX4_restore_6 : decode cX4_restore 6 = .ok (.ifCond .ne 6, 3) := by decide +kernel
theorem dX4_restore_9 : decode cX4_restore 9 = .ok (.bipush (-2), 2) := by decide +kernel
theorem dX4_restore_11 : decode cX4_restore 11 = .ok (.ireturn, 1) := by decide +kernel
theorem dX4_restore_12 : decode cX4_restore 12 = .ok (.aload_n 0, 1) := by decide +kernel
theorem dX4_restore_13 : decode cX4_restore 13 = .ok (.getfield 19, 3) := by decide +kernel
theorem dX4_restore_16 : decode cX4_restore 16 = .ok (.iload_n 1, 1) := by decide +kernel
theorem dX4_restore_17 : decode cX4_restore 17 = .ok (.aaload, 1) := by decide +kernel
theorem dX4_restore_18 : decode cX4_restore 18 = .ok (.astore_n 2, 1) := by decide +kernel
theorem dX4_restore_19 : decode cX4_restore 19 = .ok (.aload_n 2, 1) := by decide +kernel
theorem dX4_restore_20 : decode cX4_restore 20 = .ok (.ifnonnull 6, 3) := by decide +kernel
theorem dX4_restore_23 : decode cX4_restore 23 = .ok (.bipush (-3), 2) := by decide +kernel
theorem dX4_restore_25 : decode cX4_restore 25 = .ok (.ireturn, 1) := by decide +kernel
theorem dX4_restore_26 : decode cX4_restore 26 = .ok (.aload_n 0, 1) := by decide +kernel
theorem dX4_restore_27 : decode cX4_restore 27 = .ok (.getfield 10, 3) := by decide +kernel
theorem dX4_restore_30 : decode cX4_restore 30 = .ok (.aload_n 2, 1) := by decide +kernel
theorem dX4_restore_31 : decode cX4_restore 31 = .ok (.invokevirtual 117, 3) := by decide +kernel
theorem dX4_restore_34 : decode cX4_restore 34 = .ok (.iconst 1, 1) := by decide +kernel
theorem dX4_restore_35 : decode cX4_restore 35 = .ok (.ireturn, 1) := by decide +kernel
set_option maxRecDepth 20000 in
theorem ggX4_told_X4_isWithin : GoodIn wsX4_told wsX4_isWithin := goodIn_r _ [5] (by decide +kernel) (by decide +kernel)
set_option maxRecDepth 20000 in
theorem gX4_told_X4_isWithin : GoodIn wsX4_told (va_wsS RX4 46 yX4_isWithin wsX4_isWithin) := goodIn_app (goodIn_of _ (by decide +kernel)) ggX4_told_X4_isWithin
set_option maxRecDepth 20000 in
theorem ggX4_told_X4_tellCount : GoodIn wsX4_told wsX4_tellCount := goodIn_r _ [9, 10, 1, 18, 19, 20, 21, 22, 23, 24, 25, 26, 27, 28, 29, 30, 31, 32, 33, 34, 35] (by decide +kernel) (by decide +kernel)
set_option maxRecDepth 20000 in
theorem gX4_told_X4_tellCount : GoodIn wsX4_told (wsV RX4 204 RX4 yX4_tellCount wsX4_tellCount) := goodIn_app (goodIn_of _ (by decide +kernel)) ggX4_told_X4_tellCount
set_option maxRecDepth 20000 in
theorem ggX4_told_X4_tellWord : GoodIn wsX4_told wsX4_tellWord := goodIn_r _ [14, 1, 15, 16, 4, 17, 2, 3, 5, 18, 19, 20, 21, 22, 23, 24, 25, 26, 27, 28, 29, 30, 31, 32, 33, 34, 35] (by decide +kernel) (by decide +kernel)
set_option maxRecDepth 20000 in
theorem gX4_told_X4_tellWord : GoodIn wsX4_told (wsV RX4 207 RX4 yX4_tellWord wsX4_tellWord) := goodIn_app (goodIn_of _ (by decide +kernel)) ggX4_told_X4_tellWord
theorem dX4_told_0 : decode cX4_told 0 = .ok (.iload_n 1, 1) := by decide +kernel
theorem dX4_told_1 : decode cX4_told 1 = .ok (.iconst 0, 1) := by decide +kernel
theorem dX4_told_2 : decode cX4_told 2 = .ok (.iconst 2, 1) := by decide +kernel
theorem dX4_told_3 : decode cX4_told 3 = .ok (.invokestatic 46, 3) := by decide +kernel
theorem dX4_told_6 : decode cX4_told 6 = .ok (.ifCond .eq 9, 3) := by decide +kernel
theorem dX4_told_9 : decode cX4_told 9 = .ok (.aload_n 0, 1) := by decide +kernel
theorem dX4_told_10 : decode cX4_told 10 = .ok (.iload_n 1, 1) := by decide +kernel
theorem dX4_told_11 : decode cX4_told 11 = .ok (.invokevirtual 204, 3) := by decide +kernel
theorem dX4_told_14 : decode cX4_told 14 = .ok (.ireturn, 1) := by decide +kernel
theorem dX4_told_15 : decode cX4_told 15 = .ok (.iload_n 1, 1) := by decide +kernel
theorem dX4_told_16 : decode cX4_told 16 = .ok (.bipush 10, 2) := by decide +kernel
theorem dX4_told_18 : decode cX4_told 18 = .ok (.bipush 13, 2) := by decide +kernel
theorem dX4_told_20 : decode cX4_told 20 = .ok (.invokestatic 46, 3) := by decide +kernel
theorem dX4_told_23 : decode cX4_told 23 = .ok (.ifCond .eq 16, 3) := by decide +kernel
theorem dX4_told_26 : decode cX4_told 26 = .ok (.aload_n 0, 1) := by decide +kernel
theorem dX4_told_27 : decode cX4_told 27 = .ok (.getfield 10, 3) := by decide +kernel
theorem dX4_told_30 : decode cX4_told 30 = .ok (.getfield 79, 3) := by decide +kernel
theorem dX4_told_33 : decode cX4_told 33 = .ok (.iload_n 1, 1) := by decide +kernel
theorem dX4_told_34 : decode cX4_told 34 = .ok (.bipush 10, 2) := by decide +kernel
theorem dX4_told_36 : decode cX4_told 36 = .ok (.isub, 1) := by decide +kernel
theorem dX4_told_37 : decode cX4_told 37 = .ok (.iaload, 1) := by decide +kernel
theorem dX4_told_38 : decode cX4_told 38 = .ok (.ireturn, 1) := by decide +kernel
theorem dX4_told_39 : decode cX4_told 39 = .ok (.iload_n 1, 1) := by decide +kernel
theorem dX4_told_40 : decode cX4_told 40 = .ok (.bipush 20, 2) := by decide +kernel
theorem dX4_told_42 : decode cX4_told 42 = .ok (.bipush 23, 2) := by decide +kernel
theorem dX4_told_44 : decode cX4_told 44 = .ok (.invokestatic 46, 3) := by decide +kernel
theorem dX4_told_47 : decode cX4_told 47 = .ok (.ifCond .eq 16, 3) := by decide +kernel
theorem dX4_told_50 : decode cX4_told 50 = .ok (.aload_n 0, 1) := by decide +kernel
theorem dX4_told_51 : decode cX4_told 51 = .ok (.getfield 10, 3) := by decide +kernel
theorem dX4_told_54 : decode cX4_told 54 = .ok (.getfield 82, 3) := by decide +kernel
theorem dX4_told_57 : decode cX4_told 57 = .ok (.iload_n 1, 1) := by decide +kernel
theorem dX4_told_58 : decode cX4_told 58 = .ok (.bipush 20, 2) := by decide +kernel
theorem dX4_told_60 : decode cX4_told 60 = .ok (.isub, 1) := by decide +kernel
theorem dX4_told_61 : decode cX4_told 61 = .ok (.iaload, 1) := by decide +kernel
theorem dX4_told_62 : decode cX4_told 62 = .ok (.ireturn, 1) := by decide +kernel
theorem dX4_told_63 : decode cX4_told 63 = .ok (.iload_n 1, 1) := by decide +kernel
theorem dX4_told_64 : decode cX4_told 64 = .ok (.bipush 100, 2) := by decide +kernel
theorem dX4_told_66 : decode cX4_told 66 = .ok (.sipush 219, 3) := by decide +kernel
theorem dX4_told_69 : decode cX4_told 69 = .ok (.invokestatic 46, 3) := by decide +kernel
theorem dX4_told_72 : decode cX4_told 72 = .ok (.ifCond .eq 22, 3) := by decide +kernel
theorem dX4_told_75 : decode cX4_told 75 = .ok (.aload_n 0, 1) := by decide +kernel
theorem dX4_told_76 : decode cX4_told 76 = .ok (.iload_n 1, 1) := by decide +kernel
theorem dX4_told_77 : decode cX4_told 77 = .ok (.bipush 100, 2) := by decide +kernel
theorem dX4_told_79 : decode cX4_told 79 = .ok (.isub, 1) := by decide +kernel
theorem dX4_told_80 : decode cX4_told 80 = .ok (.bipush 10, 2) := by decide +kernel
theorem dX4_told_82 : decode cX4_told 82 = .ok (.idiv, 1) := by decide +kernel
theorem dX4_told_83 : decode cX4_told 83 = .ok (.iload_n 1, 1) := by decide +kernel
theorem dX4_told_84 : decode cX4_told 84 = .ok (.bipush 100, 2) := by decide +kernel
theorem dX4_told_86 : decode cX4_told 86 = .ok (.isub, 1) := by decide +kernel
theorem dX4_told_87 : decode cX4_told 87 = .ok (.bipush 10, 2) := by decide +kernel
theorem dX4_told_89 : decode cX4_told 89 = .ok (.irem, 1) := by decide +kernel
theorem dX4_told_90 : decode cX4_told 90 = .ok (.invokevirtual 207, 3) := by decide +kernel
theorem dX4_told_93 : decode cX4_told 93 = .ok (.ireturn, 1) := by decide +kernel
theorem dX4_told_94 : decode cX4_told 94 = .ok (.bipush (-2), 2) := by decide +kernel
theorem dX4_told_96 : decode cX4_told 96 = .ok (.ireturn, 1) := by decide +kernel
theorem dX4_tellCount_0 : decode cX4_tellCount 0 = .ok (.iload_n 1, 1) := by decide +kernel
theorem dX4_tellCount_1 : decode cX4_tellCount 1 = .ok (.ifCond .ne 8, 3) := by decide +kernel
theorem dX4_tellCount_4 : decode cX4_tellCount 4 = .ok (.aload_n 0, 1) := by decide +kernel
theorem dX4_tellCount_5 : decode cX4_tellCount 5 = .ok (.getfield 27, 3) := by decide +kernel
theorem dX4_tellCount_8 : decode cX4_tellCount 8 = .ok (.ireturn, 1) := by decide +kernel
theorem dX4_tellCount_9 : decode cX4_tellCount 9 = .ok (.iload_n 1, 1) := by decide +kernel
theorem dX4_tellCount_10 : decode cX4_tellCount 10 = .ok (.iconst 1, 1) := by decide +kernel
theorem dX4_tellCount_11 : decode cX4_tellCount 11 = .ok (.if_icmp .ne 13, 3) := by decide +kernel
theorem dX4_tellCount_14 : decode cX4_tellCount 14 = .ok (.aload_n 0, 1) := by decide +kernel
theorem dX4_tellCount_15 : decode cX4_tellCount 15 = .ok (.getfield 10, 3) := by decide +kernel
theorem dX4_tellCount_18 : decode cX4_tellCount 18 = .ok (.getfield 148, 3) := by decide +kernel
theorem dX4_tellCount_21 : decode cX4_tellCount 21 = .ok (.goto 10, 3) := by decide +kernel
theorem dX4_tellCount_24 : decode cX4_tellCount 24 = .ok (.aload_n 0, 1) := by decide +kernel
theorem dX4_tellCount_25 : decode cX4_tellCount 25 = .ok (.getfield 10, 3) := by decide +kernel
theorem dX4_tellCount_28 : decode cX4_tellCount 28 = .ok (.getfield 158, 3) := by decide +kernel
theorem dX4_tellCount_31 : decode cX4_tellCount 31 = .ok (.ireturn, 1) := by decide +kernel
set_option maxRecDepth 20000 in
theorem ggX4_tellWord_X4_isWord : GoodIn wsX4_tellWord wsX4_isWord := goodIn_r _ [5, 6, 7, 4, 8] (by decide +kernel) (by decide +kernel)
set_option maxRecDepth 20000 in
theorem gX4_tellWord_X4_isWord : GoodIn wsX4_tellWord (va_wsS RX4 42 yX4_isWord wsX4_isWord) := goodIn_app (goodIn_of _ (by decide +kernel)) ggX4_tellWord_X4_isWord
theorem dX4_tellWord_0 : decode cX4_tellWord 0 = .ok (.iload_n 1, 1) := by decide +kernel
theorem dX4_tellWord_1 : decode cX4_tellWord 1 = .ok (.invokestatic 42, 3) := by decide +kernel
theorem dX4_tellWord_4 : decode cX4_tellWord 4 = .ok (.ifCond .ne 6, 3) := by decide +kernel
theorem dX4_tellWord_7 : decode cX4_tellWord 7 = .ok (.bipush (-2), 2) := by decide +kernel
theorem dX4_tellWord_9 : decode cX4_tellWord 9 = .ok (.ireturn, 1) := by decide +kernel
theorem dX4_tellWord_10 : decode cX4_tellWord 10 = .ok (.iload_n 2, 1) := by decide +kernel
theorem dX4_tellWord_11 : decode cX4_tellWord 11 = .ok (.tableswitch 61 0 2 #[25, 35, 45], 25) := by decide +kernel
theorem dX4_tellWord_36 : decode cX4_tellWord 36 = .ok (.aload_n 0, 1) := by decide +kernel
theorem dX4_tellWord_37 : decode cX4_tellWord 37 = .ok (.getfield 10, 3) := by decide +kernel
theorem dX4_tellWord_40 : decode cX4_tellWord 40 = .ok (.getfield 50, 3) := by decide +kernel
theorem dX4_tellWord_43 : decode cX4_tellWord 43 = .ok (.iload_n 1, 1) := by decide +kernel
theorem dX4_tellWord_44 : decode cX4_tellWord 44 = .ok (.iaload, 1) := by decide +kernel
theorem dX4_tellWord_45 : decode cX4_tellWord 45 = .ok (.ireturn, 1) := by decide +kernel
theorem dX4_tellWord_46 : decode cX4_tellWord 46 = .ok (.aload_n 0, 1) := by decide +kernel
theorem dX4_tellWord_47 : decode cX4_tellWord 47 = .ok (.getfield 10, 3) := by decide +kernel
theorem dX4_tellWord_50 : decode cX4_tellWord 50 = .ok (.getfield 53, 3) := by decide +kernel
theorem dX4_tellWord_53 : decode cX4_tellWord 53 = .ok (.iload_n 1, 1) := by decide +kernel
theorem dX4_tellWord_54 : decode cX4_tellWord 54 = .ok (.iaload, 1) := by decide +kernel
theorem dX4_tellWord_55 : decode cX4_tellWord 55 = .ok (.ireturn, 1) := by decide +kernel
theorem dX4_tellWord_56 : decode cX4_tellWord 56 = .ok (.aload_n 0, 1) := by decide +kernel
theorem dX4_tellWord_57 : decode cX4_tellWord 57 = .ok (.getfield 10, 3) := by decide +kernel
theorem dX4_tellWord_60 : decode cX4_tellWord 60 = .ok (.getfield 60, 3) := by decide +kernel
theorem dX4_tellWord_63 : decode cX4_tellWord 63 = .ok (.iload_n 1, 1) := by decide +kernel
theorem dX4_tellWord_64 : decode cX4_tellWord 64 = .ok (.iaload, 1) := by decide +kernel
theorem dX4_tellWord_65 : decode cX4_tellWord 65 = .ok (.iconst 1, 1) := by decide +kernel
theorem dX4_tellWord_66 : decode cX4_tellWord 66 = .ok (.iload_n 1, 1) := by decide +kernel
theorem dX4_tellWord_67 : decode cX4_tellWord 67 = .ok (.ishl, 1) := by decide +kernel
theorem dX4_tellWord_68 : decode cX4_tellWord 68 = .ok (.iconst (-1), 1) := by decide +kernel
theorem dX4_tellWord_69 : decode cX4_tellWord 69 = .ok (.ixor, 1) := by decide +kernel
theorem dX4_tellWord_70 : decode cX4_tellWord 70 = .ok (.iand, 1) := by decide +kernel
theorem dX4_tellWord_71 : decode cX4_tellWord 71 = .ok (.ireturn, 1) := by decide +kernel
theorem dX4_tellWord_72 : decode cX4_tellWord 72 = .ok (.bipush (-2), 2) := by decide +kernel
theorem dX4_tellWord_74 : decode cX4_tellWord 74 = .ok (.ireturn, 1) := by decide +kernel
set_option maxRecDepth 20000 in
theorem ggX4_cheapestSentence_X3_ofKind : GoodIn wsX4_cheapestSentence wsX3_ofKind := goodIn_r _ [5, 6, 31, 32, 33, 34, 35, 36, 37, 38, 39, 40, 41] (by decide +kernel) (by decide +kernel)
set_option maxRecDepth 20000 in
theorem gX4_cheapestSentence_X3_ofKind_n210 : GoodIn wsX4_cheapestSentence (wsX3_ofKind) := ggX4_cheapestSentence_X3_ofKind
set_option maxRecDepth 20000 in
theorem ggX4_cheapestSentence_J6_bitCount_0f7a4 : GoodIn wsX4_cheapestSentence wsJ6_bitCount_0f7a4 := goodIn_r _ [10, 11, 12, 13] (by decide +kernel) (by decide +kernel)
set_option maxRecDepth 20000 in
theorem gX4_cheapestSentence_J6_bitCount_0f7a4 : GoodIn wsX4_cheapestSentence (va_wsS RX4 63 yJ6_bitCount_0f7a4 wsJ6_bitCount_0f7a4) := goodIn_app (goodIn_of _ (by decide +kernel)) ggX4_cheapestSentence_J6_bitCount_0f7a4
set_option maxRecDepth 20000 in
theorem ggX4_cheapestSentence_X4_isWithin : GoodIn wsX4_cheapestSentence wsX4_isWithin := goodIn_r _ [17] (by decide +kernel) (by decide +kernel)
set_option maxRecDepth 20000 in
theorem gX4_cheapestSentence_X4_isWithin : GoodIn wsX4_cheapestSentence (va_wsS RX4 46 yX4_isWithin wsX4_isWithin) := goodIn_app (goodIn_of _ (by decide +kernel)) ggX4_cheapestSentence_X4_isWithin
set_option maxRecDepth 20000 in
theorem ggX4_cheapestSentence_X3_priceOf : GoodIn wsX4_cheapestSentence wsX3_priceOf := goodIn_r _ [20, 21, 22, 16, 23, 31, 32, 33, 34, 35, 36, 37, 38, 39, 40, 41] (by decide +kernel) (by decide +kernel)
set_option maxRecDepth 20000 in
theorem gX4_cheapestSentence_X3_priceOf_n142 : GoodIn wsX4_cheapestSentence (wsX3_priceOf) := ggX4_cheapestSentence_X3_priceOf
theorem dX4_cheapestSentence_0 : decode cX4_cheapestSentence 0 = .ok (.aload_n 0, 1) := by decide +kernel
theorem dX4_cheapestSentence_1 : decode cX4_cheapestSentence 1 = .ok (.getfield 10, 3) := by decide +kernel
theorem dX4_cheapestSentence_4 : decode cX4_cheapestSentence 4 = .ok (.iconst 0, 1) := by decide +kernel
theorem dX4_cheapestSentence_5 : decode cX4_cheapestSentence 5 = .ok (.invokevirtual 210, 3) := by decide +kernel
theorem dX4_cheapestSentence_8 : decode cX4_cheapestSentence 8 = .ok (.istore_n 3, 1) := by decide +kernel
theorem dX4_cheapestSentence_9 : decode cX4_cheapestSentence 9 = .ok (.aload_n 0, 1) := by decide +kernel
theorem dX4_cheapestSentence_10 : decode cX4_cheapestSentence 10 = .ok (.getfield 10, 3) := by decide +kernel
theorem dX4_cheapestSentence_13 : decode cX4_cheapestSentence 13 = .ok (.iconst 1, 1) := by decide +kernel
theorem dX4_cheapestSentence_14 : decode cX4_cheapestSentence 14 = .ok (.invokevirtual 210, 3) := by decide +kernel
theorem dX4_cheapestSentence_17 : decode cX4_cheapestSentence 17 = .ok (.istore 4, 2) := by decide +kernel
theorem dX4_cheapestSentence_19 : decode cX4_cheapestSentence 19 = .ok (.bipush (-6), 2) := by decide +kernel
theorem dX4_cheapestSentence_21 : decode cX4_cheapestSentence 21 = .ok (.istore 5, 2) := by decide +kernel
theorem dX4_cheapestSentence_23 : decode cX4_cheapestSentence 23 = .ok (.iconst 0, 1) := by decide +kernel
theorem dX4_cheapestSentence_24 : decode cX4_cheapestSentence 24 = .ok (.istore 6, 2) := by decide +kernel
theorem dX4_cheapestSentence_26 : decode cX4_cheapestSentence 26 = .ok (.iconst 0, 1) := by decide +kernel
theorem dX4_cheapestSentence_27 : decode cX4_cheapestSentence 27 = .ok (.istore 7, 2) := by decide +kernel
theorem dX4_cheapestSentence_29 : decode cX4_cheapestSentence 29 = .ok (.iload 7, 2) := by decide +kernel
theorem dX4_cheapestSentence_31 : decode cX4_cheapestSentence 31 = .ok (.sipush 4095, 3) := by decide +kernel
theorem dX4_cheapestSentence_34 : decode cX4_cheapestSentence 34 = .ok (.if_icmp .gt 82, 3) := by decide +kernel
theorem dX4_cheapestSentence_37 : decode cX4_cheapestSentence 37 = .ok (.iload 7, 2) := by decide +kernel
theorem dX4_cheapestSentence_39 : decode cX4_cheapestSentence 39 = .ok (.invokestatic 63, 3) := by decide +kernel
theorem dX4_cheapestSentence_42 : decode cX4_cheapestSentence 42 = .ok (.iload_n 2, 1) := by decide +kernel
theorem dX4_cheapestSentence_43 : decode cX4_cheapestSentence 43 = .ok (.if_icmp .ne 67, 3) := by decide +kernel
theorem dX4_cheapestSentence_46 : decode cX4_cheapestSentence 46 = .ok (.iload 7, 2) := by decide +kernel
theorem dX4_cheapestSentence_48 : decode cX4_cheapestSentence 48 = .ok (.iload 4, 2) := by decide +kernel
theorem dX4_cheapestSentence_50 : decode cX4_cheapestSentence 50 = .ok (.iand, 1) := by decide +kernel
theorem dX4_cheapestSentence_51 : decode cX4_cheapestSentence 51 = .ok (.invokestatic 63, 3) := by decide +kernel
theorem dX4_cheapestSentence_54 : decode cX4_cheapestSentence 54 = .ok (.iconst 1, 1) := by decide +kernel
theorem dX4_cheapestSentence_55 : decode cX4_cheapestSentence 55 = .ok (.if_icmp .ne 55, 3) := by decide +kernel
theorem dX4_cheapestSentence_58 : decode cX4_cheapestSentence 58 = .ok (.iload 7, 2) := by decide +kernel
theorem dX4_cheapestSentence_60 : decode cX4_cheapestSentence 60 = .ok (.iload_n 3, 1) := by decide +kernel
theorem dX4_cheapestSentence_61 : decode cX4_cheapestSentence 61 = .ok (.iand, 1) := by decide +kernel
theorem dX4_cheapestSentence_62 : decode cX4_cheapestSentence 62 = .ok (.invokestatic 63, 3) := by decide +kernel
theorem dX4_cheapestSentence_65 : decode cX4_cheapestSentence 65 = .ok (.iconst 1, 1) := by decide +kernel
theorem dX4_cheapestSentence_66 : decode cX4_cheapestSentence 66 = .ok (.iconst 2, 1) := by decide +kernel
theorem dX4_cheapestSentence_67 : decode cX4_cheapestSentence 67 = .ok (.invokestatic 46, 3) := by decide +kernel
theorem dX4_cheapestSentence_70 : decode cX4_cheapestSentence 70 = .ok (.ifCond .eq 40, 3) := by decide +kernel
theorem dX4_cheapestSentence_73 : decode cX4_cheapestSentence 73 = .ok (.aload_n 0, 1) := by decide +kernel
theorem dX4_cheapestSentence_74 : decode cX4_cheapestSentence 74 = .ok (.getfield 10, 3) := by decide +kernel
theorem dX4_cheapestSentence_77 : decode cX4_cheapestSentence 77 = .ok (.iload 7, 2) := by decide +kernel
theorem dX4_cheapestSentence_79 : decode cX4_cheapestSentence 79 = .ok (.iload_n 1, 1) := by decide +kernel
theorem dX4_cheapestSentence_80 : decode cX4_cheapestSentence 80 = .ok (.iconst (-1), 1) := by decide +kernel
theorem dX4_cheapestSentence_81 : decode cX4_cheapestSentence 81 = .ok (.ixor, 1) := by decide +kernel
theorem dX4_cheapestSentence_82 : decode cX4_cheapestSentence 82 = .ok (.iand, 1) := by decide +kernel
theorem dX4_cheapestSentence_83 : decode cX4_cheapestSentence 83 = .ok (.invokevirtual 142, 3) := by decide +kernel
theorem dX4_cheapestSentence_86 : decode cX4_cheapestSentence 86 = .ok (.istore 8, 2) := by decide +kernel
theorem dX4_cheapestSentence_88 : decode cX4_cheapestSentence 88 = .ok (.iload 5, 2) := by decide +kernel
theorem dX4_cheapestSentence_90 : decode cX4_cheapestSentence 90 = .ok (.bipush (-6), 2) := by decide +kernel
theorem dX4_cheapestSentence_92 : decode cX4_cheapestSentence 92 = .ok (.if_icmp .eq 10, 3) := by decide +kernel
theorem dX4_cheapestSentence_95 : decode cX4_cheapestSentence 95 = .ok (.iload 8, 2) := by decide +kernel
theorem dX4_cheapestSentence_97 : decode cX4_cheapestSentence 97 = .ok (.iload 6, 2) := by decide +kernel
theorem dX4_cheapestSentence_99 : decode cX4_cheapestSentence 99 = .ok (.if_icmp .ge 11, 3) := by decide +kernel
theorem dX4_cheapestSentence_102 : decode cX4_cheapestSentence 102 = .ok (.iload 7, 2) := by decide +kernel
theorem dX4_cheapestSentence_104 : decode cX4_cheapestSentence 104 = .ok (.istore 5, 2) := by decide +kernel
theorem dX4_cheapestSentence_106 : decode cX4_cheapestSentence 106 = .ok (.iload 8, 2) := by decide +kernel
theorem dX4_cheapestSentence_108 : decode cX4_cheapestSentence 108 = .ok (.istore 6, 2) := by decide +kernel
theorem dX4_cheapestSentence_110 : decode cX4_cheapestSentence 110 = .ok (.iinc 7 1, 3) := by decide +kernel
theorem dX4_cheapestSentence_113 : decode cX4_cheapestSentence 113 = .ok (.goto (-84), 3) := by decide +kernel
theorem dX4_cheapestSentence_116 : decode cX4_cheapestSentence 116 = .ok (.iload 5, 2) := by decide +kernel
theorem dX4_cheapestSentence_118 : decode cX4_cheapestSentence 118 = .ok (.ireturn, 1) := by decide +kernel
set_option maxRecDepth 20000 in
theorem ggX4_fewestSpeakers_J6_bitCount_0f7a4 : GoodIn wsX4_fewestSpeakers wsJ6_bitCount_0f7a4 := goodIn_r _ [5, 6, 7, 8] (by decide +kernel) (by decide +kernel)
set_option maxRecDepth 20000 in
theorem gX4_fewestSpeakers_J6_bitCount_0f7a4 : GoodIn wsX4_fewestSpeakers (va_wsS RX4 63 yJ6_bitCount_0f7a4 wsJ6_bitCount_0f7a4) := goodIn_app (goodIn_of _ (by decide +kernel)) ggX4_fewestSpeakers_J6_bitCount_0f7a4
set_option maxRecDepth 20000 in
theorem ggX4_fewestSpeakers_X3_heldBy : GoodIn wsX4_fewestSpeakers wsX3_heldBy := goodIn_r _ [12, 13, 14, 15, 16, 37, 38, 39, 40, 41, 42, 43, 44, 45, 46, 47] (by decide +kernel) (by decide +kernel)
set_option maxRecDepth 20000 in
theorem gX4_fewestSpeakers_X3_heldBy_n213 : GoodIn wsX4_fewestSpeakers (wsX3_heldBy) := ggX4_fewestSpeakers_X3_heldBy
set_option maxRecDepth 20000 in
theorem ggX4_fewestSpeakers_X3_canSayOnce : GoodIn wsX4_fewestSpeakers wsX3_canSayOnce := goodIn_r _ [19, 20, 21, 22, 10, 23, 24, 25, 26, 27, 28, 29, 3, 4, 5, 6, 7, 8, 37, 38, 39, 40, 41, 42, 43, 44, 45, 46, 47] (by decide +kernel) (by decide +kernel)
set_option maxRecDepth 20000 in
theorem gX4_fewestSpeakers_X3_canSayOnce_n216 : GoodIn wsX4_fewestSpeakers (wsX3_canSayOnce) := ggX4_fewestSpeakers_X3_canSayOnce
theorem dX4_fewestSpeakers_0 : decode cX4_fewestSpeakers 0 = .ok (.bipush (-6), 2) := by decide +kernel
theorem dX4_fewestSpeakers_2 : decode cX4_fewestSpeakers 2 = .ok (.istore_n 2, 1) := by decide +kernel
theorem dX4_fewestSpeakers_3 : decode cX4_fewestSpeakers 3 = .ok (.iconst 5, 1) := by decide +kernel
theorem dX4_fewestSpeakers_4 : decode cX4_fewestSpeakers 4 = .ok (.istore_n 3, 1) := by decide +kernel
theorem dX4_fewestSpeakers_5 : decode cX4_fewestSpeakers 5 = .ok (.iconst 1, 1) := by decide +kernel
theorem dX4_fewestSpeakers_6 : decode cX4_fewestSpeakers 6 = .ok (.istore 4, 2) := by decide +kernel
theorem dX4_fewestSpeakers_8 : decode cX4_fewestSpeakers 8 = .ok (.iload 4, 2) := by decide +kernel
theorem dX4_fewestSpeakers_10 : decode cX4_fewestSpeakers 10 = .ok (.bipush 15, 2) := by decide +kernel
theorem dX4_fewestSpeakers_12 : decode cX4_fewestSpeakers 12 = .ok (.if_icmp .gt 48, 3) := by decide +kernel
theorem dX4_fewestSpeakers_15 : decode cX4_fewestSpeakers 15 = .ok (.iload 4, 2) := by decide +kernel
theorem dX4_fewestSpeakers_17 : decode cX4_fewestSpeakers 17 = .ok (.invokestatic 63, 3) := by decide +kernel
theorem dX4_fewestSpeakers_20 : decode cX4_fewestSpeakers 20 = .ok (.istore 5, 2) := by decide +kernel
theorem dX4_fewestSpeakers_22 : decode cX4_fewestSpeakers 22 = .ok (.iload 5, 2) := by decide +kernel
theorem dX4_fewestSpeakers_24 : decode cX4_fewestSpeakers 24 = .ok (.iload_n 3, 1) := by decide +kernel
theorem dX4_fewestSpeakers_25 : decode cX4_fewestSpeakers 25 = .ok (.if_icmp .ge 29, 3) := by decide +kernel
theorem dX4_fewestSpeakers_28 : decode cX4_fewestSpeakers 28 = .ok (.aload_n 0, 1) := by decide +kernel
theorem dX4_fewestSpeakers_29 : decode cX4_fewestSpeakers 29 = .ok (.getfield 10, 3) := by decide +kernel
theorem dX4_fewestSpeakers_32 : decode cX4_fewestSpeakers 32 = .ok (.aload_n 0, 1) := by decide +kernel
theorem dX4_fewestSpeakers_33 : decode cX4_fewestSpeakers 33 = .ok (.getfield 10, 3) := by decide +kernel
theorem dX4_fewestSpeakers_36 : decode cX4_fewestSpeakers 36 = .ok (.iload 4, 2) := by decide +kernel
theorem dX4_fewestSpeakers_38 : decode cX4_fewestSpeakers 38 = .ok (.invokevirtual 213, 3) := by decide +kernel
theorem dX4_fewestSpeakers_41 : decode cX4_fewestSpeakers 41 = .ok (.iload_n 1, 1) := by decide +kernel
theorem dX4_fewestSpeakers_42 : decode cX4_fewestSpeakers 42 = .ok (.invokevirtual 216, 3) := by decide +kernel
theorem dX4_fewestSpeakers_45 : decode cX4_fewestSpeakers 45 = .ok (.ifCond .eq 9, 3) := by decide +kernel
theorem dX4_fewestSpeakers_48 : decode cX4_fewestSpeakers 48 = .ok (.iload 4, 2) := by decide +kernel
theorem dX4_fewestSpeakers_50 : decode cX4_fewestSpeakers 50 = .ok (.istore_n 2, 1) := by decide +kernel
theorem dX4_fewestSpeakers_51 : decode cX4_fewestSpeakers 51 = .ok (.iload 5, 2) := by decide +kernel
theorem dX4_fewestSpeakers_53 : decode cX4_fewestSpeakers 53 = .ok (.istore_n 3, 1) := by decide +kernel
theorem dX4_fewestSpeakers_54 : decode cX4_fewestSpeakers 54 = .ok (.iinc 4 1, 3) := by decide +kernel
theorem dX4_fewestSpeakers_57 : decode cX4_fewestSpeakers 57 = .ok (.goto (-49), 3) := by decide +kernel
theorem dX4_fewestSpeakers_60 : decode cX4_fewestSpeakers 60 = .ok (.iload_n 2, 1) := by decide +kernel
theorem dX4_fewestSpeakers_61 : decode cX4_fewestSpeakers 61 = .ok (.ireturn, 1) := by decide +kernel
set_option maxRecDepth 20000 in
theorem ggX4_fewestWords_J6_bitCount_0f7a4 : GoodIn wsX4_fewestWords wsJ6_bitCount_0f7a4 := goodIn_r _ [5, 6, 7, 8] (by decide +kernel) (by decide +kernel)
set_option maxRecDepth 20000 in
theorem gX4_fewestWords_J6_bitCount_0f7a4 : GoodIn wsX4_fewestWords (va_wsS RX4 63 yJ6_bitCount_0f7a4 wsJ6_bitCount_0f7a4) := goodIn_app (goodIn_of _ (by decide +kernel)) ggX4_fewestWords_J6_bitCount_0f7a4
set_option maxRecDepth 20000 in
theorem ggX4_fewestWords_X3_grantsAll : GoodIn wsX4_fewestWords wsX3_grantsAll := goodIn_r _ [12, 13, 14, 22, 23, 24, 25, 26, 27, 28, 29, 30, 31, 32] (by decide +kernel) (by decide +kernel)
set_option maxRecDepth 20000 in
theorem gX4_fewestWords_X3_grantsAll_n220 : GoodIn wsX4_fewestWords (wsX3_grantsAll) := ggX4_fewestWords_X3_grantsAll
theorem dX4_fewestWords_0 : decode cX4_fewestWords 0 = .ok (.bipush (-6), 2) := by decide +kernel
theorem dX4_fewestWords_2 : decode cX4_fewestWords 2 = .ok (.istore_n 1, 1) := by decide +kernel
theorem dX4_fewestWords_3 : decode cX4_fewestWords 3 = .ok (.bipush 13, 2) := by decide +kernel
theorem dX4_fewestWords_5 : decode cX4_fewestWords 5 = .ok (.istore_n 2, 1) := by decide +kernel
theorem dX4_fewestWords_6 : decode cX4_fewestWords 6 = .ok (.iconst 0, 1) := by decide +kernel
theorem dX4_fewestWords_7 : decode cX4_fewestWords 7 = .ok (.istore_n 3, 1) := by decide +kernel
theorem dX4_fewestWords_8 : decode cX4_fewestWords 8 = .ok (.iload_n 3, 1) := by decide +kernel
theorem dX4_fewestWords_9 : decode cX4_fewestWords 9 = .ok (.sipush 4095, 3) := by decide +kernel
theorem dX4_fewestWords_12 : decode cX4_fewestWords 12 = .ok (.if_icmp .gt 37, 3) := by decide +kernel
theorem dX4_fewestWords_15 : decode cX4_fewestWords 15 = .ok (.iload_n 3, 1) := by decide +kernel
theorem dX4_fewestWords_16 : decode cX4_fewestWords 16 = .ok (.invokestatic 63, 3) := by decide +kernel
theorem dX4_fewestWords_19 : decode cX4_fewestWords 19 = .ok (.istore 4, 2) := by decide +kernel
theorem dX4_fewestWords_21 : decode cX4_fewestWords 21 = .ok (.iload 4, 2) := by decide +kernel
theorem dX4_fewestWords_23 : decode cX4_fewestWords 23 = .ok (.iload_n 2, 1) := by decide +kernel
theorem dX4_fewestWords_24 : decode cX4_fewestWords 24 = .ok (.if_icmp .ge 19, 3) := by decide +kernel
theorem dX4_fewestWords_27 : decode cX4_fewestWords 27 = .ok (.aload_n 0, 1) := by decide +kernel
theorem dX4_fewestWords_28 : decode cX4_fewestWords 28 = .ok (.getfield 10, 3) := by decide +kernel
theorem dX4_fewestWords_31 : decode cX4_fewestWords 31 = .ok (.iload_n 3, 1) := by decide +kernel
theorem dX4_fewestWords_32 : decode cX4_fewestWords 32 = .ok (.invokevirtual 220, 3) := by decide +kernel
theorem dX4_fewestWords_35 : decode cX4_fewestWords 35 = .ok (.ifCond .eq 8, 3) := by decide +kernel
theorem dX4_fewestWords_38 : decode cX4_fewestWords 38 = .ok (.iload_n 3, 1) := by decide +kernel
theorem dX4_fewestWords_39 : decode cX4_fewestWords 39 = .ok (.istore_n 1, 1) := by decide +kernel
theorem dX4_fewestWords_40 : decode cX4_fewestWords 40 = .ok (.iload 4, 2) := by decide +kernel
theorem dX4_fewestWords_42 : decode cX4_fewestWords 42 = .ok (.istore_n 2, 1) := by decide +kernel
theorem dX4_fewestWords_43 : decode cX4_fewestWords 43 = .ok (.iinc 3 1, 3) := by decide +kernel
theorem dX4_fewestWords_46 : decode cX4_fewestWords 46 = .ok (.goto (-38), 3) := by decide +kernel
theorem dX4_fewestWords_49 : decode cX4_fewestWords 49 = .ok (.iload_n 1, 1) := by decide +kernel
theorem dX4_fewestWords_50 : decode cX4_fewestWords 50 = .ok (.ireturn, 1) := by decide +kernel
set_option maxRecDepth 20000 in
theorem ggX4_bestEach_X4_mostLeft : GoodIn wsX4_bestEach wsX4_mostLeft := goodIn_r _ [4, 5, 6, 7, 8] (by decide +kernel) (by decide +kernel)
set_option maxRecDepth 20000 in
theorem gX4_bestEach_X4_mostLeft : GoodIn wsX4_bestEach (va_wsS RX4 179 yX4_mostLeft wsX4_mostLeft) := goodIn_app (goodIn_of _ (by decide +kernel)) ggX4_bestEach_X4_mostLeft
theorem dX4_bestEach_0 : decode cX4_bestEach 0 = .ok (.iconst 0, 1) := by decide +kernel
theorem dX4_bestEach_1 : decode cX4_bestEach 1 = .ok (.istore_n 1, 1) := by decide +kernel
theorem dX4_bestEach_2 : decode cX4_bestEach 2 = .ok (.iconst 1, 1) := by decide +kernel
theorem dX4_bestEach_3 : decode cX4_bestEach 3 = .ok (.istore_n 2, 1) := by decide +kernel
theorem dX4_bestEach_4 : decode cX4_bestEach 4 = .ok (.iload_n 2, 1) := by decide +kernel
theorem dX4_bestEach_5 : decode cX4_bestEach 5 = .ok (.iload_n 0, 1) := by decide +kernel
theorem dX4_bestEach_6 : decode cX4_bestEach 6 = .ok (.iconst 2, 1) := by decide +kernel
theorem dX4_bestEach_7 : decode cX4_bestEach 7 = .ok (.idiv, 1) := by decide +kernel
theorem dX4_bestEach_8 : decode cX4_bestEach 8 = .ok (.if_icmp .gt 24, 3) := by decide +kernel
theorem dX4_bestEach_11 : decode cX4_bestEach 11 = .ok (.iload_n 0, 1) := by decide +kernel
theorem dX4_bestEach_12 : decode cX4_bestEach 12 = .ok (.iload_n 2, 1) := by decide +kernel
theorem dX4_bestEach_13 : decode cX4_bestEach 13 = .ok (.invokestatic 179, 3) := by decide +kernel
theorem dX4_bestEach_16 : decode cX4_bestEach 16 = .ok (.iload_n 0, 1) := by decide +kernel
theorem dX4_bestEach_17 : decode cX4_bestEach 17 = .ok (.iload_n 1, 1) := by decide +kernel
theorem dX4_bestEach_18 : decode cX4_bestEach 18 = .ok (.invokestatic 179, 3) := by decide +kernel
theorem dX4_bestEach_21 : decode cX4_bestEach 21 = .ok (.if_icmp .ge 5, 3) := by decide +kernel
theorem dX4_bestEach_24 : decode cX4_bestEach 24 = .ok (.iload_n 2, 1) := by decide +kernel
theorem dX4_bestEach_25 : decode cX4_bestEach 25 = .ok (.istore_n 1, 1) := by decide +kernel
theorem dX4_bestEach_26 : decode cX4_bestEach 26 = .ok (.iinc 2 1, 3) := by decide +kernel
theorem dX4_bestEach_29 : decode cX4_bestEach 29 = .ok (.goto (-25), 3) := by decide +kernel
theorem dX4_bestEach_32 : decode cX4_bestEach 32 = .ok (.iload_n 1, 1) := by decide +kernel
theorem dX4_bestEach_33 : decode cX4_bestEach 33 = .ok (.ireturn, 1) := by decide +kernel
theorem dX4_mostLeft_0 : decode cX4_mostLeft 0 = .ok (.iload_n 1, 1) := by decide +kernel
theorem dX4_mostLeft_1 : decode cX4_mostLeft 1 = .ok (.iload_n 0, 1) := by decide +kernel
theorem dX4_mostLeft_2 : decode cX4_mostLeft 2 = .ok (.iconst 2, 1) := by decide +kernel
theorem dX4_mostLeft_3 : decode cX4_mostLeft 3 = .ok (.iload_n 1, 1) := by decide +kernel
theorem dX4_mostLeft_4 : decode cX4_mostLeft 4 = .ok (.imul, 1) := by decide +kernel
theorem dX4_mostLeft_5 : decode cX4_mostLeft 5 = .ok (.isub, 1) := by decide +kernel
theorem dX4_mostLeft_6 : decode cX4_mostLeft 6 = .ok (.invokestatic 223, 3) := by decide +kernel
theorem dX4_mostLeft_9 : decode cX4_mostLeft 9 = .ok (.ireturn, 1) := by decide +kernel
theorem dX4_fewestWeighings_0 : decode cX4_fewestWeighings 0 = .ok (.iconst 1, 1) := by decide +kernel
theorem dX4_fewestWeighings_1 : decode cX4_fewestWeighings 1 = .ok (.istore_n 1, 1) := by decide +kernel
theorem dX4_fewestWeighings_2 : decode cX4_fewestWeighings 2 = .ok (.iconst 0, 1) := by decide +kernel
theorem dX4_fewestWeighings_3 : decode cX4_fewestWeighings 3 = .ok (.istore_n 2, 1) := by decide +kernel
theorem dX4_fewestWeighings_4 : decode cX4_fewestWeighings 4 = .ok (.iload_n 1, 1) := by decide +kernel
theorem dX4_fewestWeighings_5 : decode cX4_fewestWeighings 5 = .ok (.iload_n 0, 1) := by decide +kernel
theorem dX4_fewestWeighings_6 : decode cX4_fewestWeighings 6 = .ok (.if_icmp .ge 19, 3) := by decide +kernel
theorem dX4_fewestWeighings_9 : decode cX4_fewestWeighings 9 = .ok (.iload_n 2, 1) := by decide +kernel
theorem dX4_fewestWeighings_10 : decode cX4_fewestWeighings 10 = .ok (.bipush 12, 2) := by decide +kernel
theorem dX4_fewestWeighings_12 : decode cX4_fewestWeighings 12 = .ok (.if_icmp .ge 13, 3) := by decide +kernel
theorem dX4_fewestWeighings_15 : decode cX4_fewestWeighings 15 = .ok (.iload_n 1, 1) := by decide +kernel
theorem dX4_fewestWeighings_16 : decode cX4_fewestWeighings 16 = .ok (.iconst 3, 1) := by decide +kernel
theorem dX4_fewestWeighings_17 : decode cX4_fewestWeighings 17 = .ok (.imul, 1) := by decide +kernel
theorem dX4_fewestWeighings_18 : decode cX4_fewestWeighings 18 = .ok (.istore_n 1, 1) := by decide +kernel
theorem dX4_fewestWeighings_19 : decode cX4_fewestWeighings 19 = .ok (.iinc 2 1, 3) := by decide +kernel
theorem dX4_fewestWeighings_22 : decode cX4_fewestWeighings 22 = .ok (.goto (-18), 3) := by decide +kernel
theorem dX4_fewestWeighings_25 : decode cX4_fewestWeighings 25 = .ok (.iload_n 2, 1) := by decide +kernel
theorem dX4_fewestWeighings_26 : decode cX4_fewestWeighings 26 = .ok (.ireturn, 1) := by decide +kernel
set_option maxRecDepth 20000 in
theorem ggX4_bestMean_X4_isWithin : GoodIn wsX4_bestMean wsX4_isWithin := goodIn_r _ [10] (by decide +kernel) (by decide +kernel)
set_option maxRecDepth 20000 in
theorem gX4_bestMean_X4_isWithin : GoodIn wsX4_bestMean (va_wsS RX4 46 yX4_isWithin wsX4_isWithin) := goodIn_app (goodIn_of _ (by decide +kernel)) ggX4_bestMean_X4_isWithin
theorem dX4_bestMean_0 : decode cX4_bestMean 0 = .ok (.iconst 0, 1) := by decide +kernel
theorem dX4_bestMean_1 : decode cX4_bestMean 1 = .ok (.istore 4, 2) := by decide +kernel
theorem dX4_bestMean_3 : decode cX4_bestMean 3 = .ok (.iload 4, 2) := by decide +kernel
theorem dX4_bestMean_5 : decode cX4_bestMean 5 = .ok (.aload_n 0, 1) := by decide +kernel
theorem dX4_bestMean_6 : decode cX4_bestMean 6 = .ok (.getfield 38, 3) := by decide +kernel
theorem dX4_bestMean_9 : decode cX4_bestMean 9 = .ok (.arraylength, 1) := by decide +kernel
theorem dX4_bestMean_10 : decode cX4_bestMean 10 = .ok (.if_icmp .ge 19, 3) := by decide +kernel
theorem dX4_bestMean_13 : decode cX4_bestMean 13 = .ok (.aload_n 0, 1) := by decide +kernel
theorem dX4_bestMean_14 : decode cX4_bestMean 14 = .ok (.getfield 38, 3) := by decide +kernel
theorem dX4_bestMean_17 : decode cX4_bestMean 17 = .ok (.iload 4, 2) := by decide +kernel
theorem dX4_bestMean_19 : decode cX4_bestMean 19 = .ok (.iload 4, 2) := by decide +kernel
theorem dX4_bestMean_21 : decode cX4_bestMean 21 = .ok (.i2l, 1) := by decide +kernel
theorem dX4_bestMean_22 : decode cX4_bestMean 22 = .ok (.lastore, 1) := by decide +kernel
theorem dX4_bestMean_23 : decode cX4_bestMean 23 = .ok (.iinc 4 1, 3) := by decide +kernel
theorem dX4_bestMean_26 : decode cX4_bestMean 26 = .ok (.goto (-23), 3) := by decide +kernel
theorem dX4_bestMean_29 : decode cX4_bestMean 29 = .ok (.lconst 1, 1) := by decide +kernel
theorem dX4_bestMean_30 : decode cX4_bestMean 30 = .ok (.lstore 4, 2) := by decide +kernel
theorem dX4_bestMean_32 : decode cX4_bestMean 32 = .ok (.iconst 1, 1) := by decide +kernel
theorem dX4_bestMean_33 : decode cX4_bestMean 33 = .ok (.istore 6, 2) := by decide +kernel
theorem dX4_bestMean_35 : decode cX4_bestMean 35 = .ok (.iload 6, 2) := by decide +kernel
theorem dX4_bestMean_37 : decode cX4_bestMean 37 = .ok (.iload_n 2, 1) := by decide +kernel
theorem dX4_bestMean_38 : decode cX4_bestMean 38 = .ok (.if_icmp .gt 100, 3) := by decide +kernel
theorem dX4_bestMean_41 : decode cX4_bestMean 41 = .ok (.lload 4, 2) := by decide +kernel
theorem dX4_bestMean_43 : decode cX4_bestMean 43 = .ok (.ldc2_w 188, 3) := by decide +kernel
theorem dX4_bestMean_46 : decode cX4_bestMean 46 = .ok (.lmul, 1) := by decide +kernel
theorem dX4_bestMean_47 : decode cX4_bestMean 47 = .ok (.lstore 4, 2) := by decide +kernel
theorem dX4_bestMean_49 : decode cX4_bestMean 49 = .ok (.aload_n 0, 1) := by decide +kernel
theorem dX4_bestMean_50 : decode cX4_bestMean 50 = .ok (.getfield 38, 3) := by decide +kernel
theorem dX4_bestMean_53 : decode cX4_bestMean 53 = .ok (.iconst 0, 1) := by decide +kernel
theorem dX4_bestMean_54 : decode cX4_bestMean 54 = .ok (.laload, 1) := by decide +kernel
theorem dX4_bestMean_55 : decode cX4_bestMean 55 = .ok (.lstore 7, 2) := by decide +kernel
theorem dX4_bestMean_57 : decode cX4_bestMean 57 = .ok (.iconst 0, 1) := by decide +kernel
theorem dX4_bestMean_58 : decode cX4_bestMean 58 = .ok (.istore 9, 2) := by decide +kernel
theorem dX4_bestMean_60 : decode cX4_bestMean 60 = .ok (.iload 9, 2) := by decide +kernel
theorem dX4_bestMean_62 : decode cX4_bestMean 62 = .ok (.iconst 1, 1) := by decide +kernel
theorem dX4_bestMean_63 : decode cX4_bestMean 63 = .ok (.iadd, 1) := by decide +kernel
theorem dX4_bestMean_64 : decode cX4_bestMean 64 = .ok (.aload_n 0, 1) := by decide +kernel
theorem dX4_bestMean_65 : decode cX4_bestMean 65 = .ok (.getfield 38, 3) := by decide +kernel
theorem dX4_bestMean_68 : decode cX4_bestMean 68 = .ok (.arraylength, 1) := by decide +kernel
theorem dX4_bestMean_69 : decode cX4_bestMean 69 = .ok (.if_icmp .ge 63, 3) := by decide +kernel
theorem dX4_bestMean_72 : decode cX4_bestMean 72 = .ok (.aload_n 0, 1) := by decide +kernel
theorem dX4_bestMean_73 : decode cX4_bestMean 73 = .ok (.getfield 38, 3) := by decide +kernel
theorem dX4_bestMean_76 : decode cX4_bestMean 76 = .ok (.iload 9, 2) := by decide +kernel
theorem dX4_bestMean_78 : decode cX4_bestMean 78 = .ok (.laload, 1) := by decide +kernel
theorem dX4_bestMean_79 : decode cX4_bestMean 79 = .ok (.lstore 10, 2) := by decide +kernel
theorem dX4_bestMean_81 : decode cX4_bestMean 81 = .ok (.iload_n 3, 1) := by decide +kernel
theorem dX4_bestMean_82 : decode cX4_bestMean 82 = .ok (.i2l, 1) := by decide +kernel
theorem dX4_bestMean_83 : decode cX4_bestMean 83 = .ok (.aload_n 0, 1) := by decide +kernel
theorem dX4_bestMean_84 : decode cX4_bestMean 84 = .ok (.getfield 38, 3) := by decide +kernel
theorem dX4_bestMean_87 : decode cX4_bestMean 87 = .ok (.iload 9, 2) := by decide +kernel
theorem dX4_bestMean_89 : decode cX4_bestMean 89 = .ok (.iconst 1, 1) := by decide +kernel
theorem dX4_bestMean_90 : decode cX4_bestMean 90 = .ok (.iadd, 1) := by decide +kernel
theorem dX4_bestMean_91 : decode cX4_bestMean 91 = .ok (.laload, 1) := by decide +kernel
theorem dX4_bestMean_92 : decode cX4_bestMean 92 = .ok (.lmul, 1) := by decide +kernel
theorem dX4_bestMean_93 : decode cX4_bestMean 93 = .ok (.bipush 10, 2) := by decide +kernel
theorem dX4_bestMean_95 : decode cX4_bestMean 95 = .ok (.iload_n 3, 1) := by decide +kernel
theorem dX4_bestMean_96 : decode cX4_bestMean 96 = .ok (.isub, 1) := by decide +kernel
theorem dX4_bestMean_97 : decode cX4_bestMean 97 = .ok (.i2l, 1) := by decide +kernel
theorem dX4_bestMean_98 : decode cX4_bestMean 98 = .ok (.lload 7, 2) := by decide +kernel
theorem dX4_bestMean_100 : decode cX4_bestMean 100 = .ok (.lmul, 1) := by decide +kernel
theorem dX4_bestMean_101 : decode cX4_bestMean 101 = .ok (.ladd, 1) := by decide +kernel
theorem dX4_bestMean_102 : decode cX4_bestMean 102 = .ok (.lstore 12, 2) := by decide +kernel
theorem dX4_bestMean_104 : decode cX4_bestMean 104 = .ok (.aload_n 0, 1) := by decide +kernel
theorem dX4_bestMean_105 : decode cX4_bestMean 105 = .ok (.getfield 38, 3) := by decide +kernel
theorem dX4_bestMean_108 : decode cX4_bestMean 108 = .ok (.iload 9, 2) := by decide +kernel
theorem dX4_bestMean_110 : decode cX4_bestMean 110 = .ok (.iload 9, 2) := by decide +kernel
theorem dX4_bestMean_112 : decode cX4_bestMean 112 = .ok (.i2l, 1) := by decide +kernel
theorem dX4_bestMean_113 : decode cX4_bestMean 113 = .ok (.lload 4, 2) := by decide +kernel
theorem dX4_bestMean_115 : decode cX4_bestMean 115 = .ok (.lmul, 1) := by decide +kernel
theorem dX4_bestMean_116 : decode cX4_bestMean 116 = .ok (.lload 12, 2) := by decide +kernel
theorem dX4_bestMean_118 : decode cX4_bestMean 118 = .ok (.invokestatic 228, 3) := by decide +kernel
theorem dX4_bestMean_121 : decode cX4_bestMean 121 = .ok (.lastore, 1) := by decide +kernel
theorem dX4_bestMean_122 : decode cX4_bestMean 122 = .ok (.lload 10, 2) := by decide +kernel
theorem dX4_bestMean_124 : decode cX4_bestMean 124 = .ok (.lstore 7, 2) := by decide +kernel
theorem dX4_bestMean_126 : decode cX4_bestMean 126 = .ok (.iinc 9 1, 3) := by decide +kernel
theorem dX4_bestMean_129 : decode cX4_bestMean 129 = .ok (.goto (-69), 3) := by decide +kernel
theorem dX4_bestMean_132 : decode cX4_bestMean 132 = .ok (.iinc 6 1, 3) := by decide +kernel
theorem dX4_bestMean_135 : decode cX4_bestMean 135 = .ok (.goto (-100), 3) := by decide +kernel
theorem dX4_bestMean_138 : decode cX4_bestMean 138 = .ok (.iload_n 1, 1) := by decide +kernel
theorem dX4_bestMean_139 : decode cX4_bestMean 139 = .ok (.iconst 0, 1) := by decide +kernel
theorem dX4_bestMean_140 : decode cX4_bestMean 140 = .ok (.aload_n 0, 1) := by decide +kernel
theorem dX4_bestMean_141 : decode cX4_bestMean 141 = .ok (.getfield 38, 3) := by decide +kernel
theorem dX4_bestMean_144 : decode cX4_bestMean 144 = .ok (.arraylength, 1) := by decide +kernel
theorem dX4_bestMean_145 : decode cX4_bestMean 145 = .ok (.iconst 1, 1) := by decide +kernel
theorem dX4_bestMean_146 : decode cX4_bestMean 146 = .ok (.isub, 1) := by decide +kernel
theorem dX4_bestMean_147 : decode cX4_bestMean 147 = .ok (.invokestatic 46, 3) := by decide +kernel
theorem dX4_bestMean_150 : decode cX4_bestMean 150 = .ok (.ifCond .eq 12, 3) := by decide +kernel
theorem dX4_bestMean_153 : decode cX4_bestMean 153 = .ok (.aload_n 0, 1) := by decide +kernel
theorem dX4_bestMean_154 : decode cX4_bestMean 154 = .ok (.getfield 38, 3) := by decide +kernel
theorem dX4_bestMean_157 : decode cX4_bestMean 157 = .ok (.iload_n 1, 1) := by decide +kernel
theorem dX4_bestMean_158 : decode cX4_bestMean 158 = .ok (.laload, 1) := by decide +kernel
theorem dX4_bestMean_159 : decode cX4_bestMean 159 = .ok (.goto 4, 3) := by decide +kernel
theorem dX4_bestMean_162 : decode cX4_bestMean 162 = .ok (.lconst 0, 1) := by decide +kernel
theorem dX4_bestMean_163 : decode cX4_bestMean 163 = .ok (.lreturn, 1) := by decide +kernel
theorem dX4_isWithin_0 : decode cX4_isWithin 0 = .ok (.iload_n 1, 1) := by decide +kernel
theorem dX4_isWithin_1 : decode cX4_isWithin 1 = .ok (.iload_n 0, 1) := by decide +kernel
theorem dX4_isWithin_2 : decode cX4_isWithin 2 = .ok (.if_icmp .gt 12, 3) := by decide +kernel
theorem dX4_isWithin_5 : decode cX4_isWithin 5 = .ok (.iload_n 0, 1) := by decide +kernel
theorem dX4_isWithin_6 : decode cX4_isWithin 6 = .ok (.iload_n 2, 1) := by decide +kernel
theorem dX4_isWithin_7 : decode cX4_isWithin 7 = .ok (.if_icmp .gt 7, 3) := by decide +kernel
theorem dX4_isWithin_10 : decode cX4_isWithin 10 = .ok (.iconst 1, 1) := by decide +kernel
theorem dX4_isWithin_11 : decode cX4_isWithin 11 = .ok (.goto 4, 3) := by decide +kernel
theorem dX4_isWithin_14 : decode cX4_isWithin 14 = .ok (.iconst 0, 1) := by decide +kernel
theorem dX4_isWithin_15 : decode cX4_isWithin 15 = .ok (.ireturn, 1) := by decide +kernel
set_option maxRecDepth 20000 in
theorem ggX4_isWord_X4_isWithin : GoodIn wsX4_isWord wsX4_isWithin := goodIn_r _ [4] (by decide +kernel) (by decide +kernel)
set_option maxRecDepth 20000 in
theorem gX4_isWord_X4_isWithin : GoodIn wsX4_isWord (va_wsS RX4 46 yX4_isWithin wsX4_isWithin) := goodIn_app (goodIn_of _ (by decide +kernel)) ggX4_isWord_X4_isWithin
theorem dX4_isWord_0 : decode cX4_isWord 0 = .ok (.iload_n 0, 1) := by decide +kernel
theorem dX4_isWord_1 : decode cX4_isWord 1 = .ok (.iconst 0, 1) := by decide +kernel
theorem dX4_isWord_2 : decode cX4_isWord 2 = .ok (.bipush 11, 2) := by decide +kernel
theorem dX4_isWord_4 : decode cX4_isWord 4 = .ok (.invokestatic 46, 3) := by decide +kernel
theorem dX4_isWord_7 : decode cX4_isWord 7 = .ok (.ireturn, 1) := by decide +kernel
set_option maxRecDepth 20000 in
theorem ggX4_isSpeaker_X4_isWithin : GoodIn wsX4_isSpeaker wsX4_isWithin := goodIn_r _ [4] (by decide +kernel) (by decide +kernel)
set_option maxRecDepth 20000 in
theorem gX4_isSpeaker_X4_isWithin : GoodIn wsX4_isSpeaker (va_wsS RX4 46 yX4_isWithin wsX4_isWithin) := goodIn_app (goodIn_of _ (by decide +kernel)) ggX4_isSpeaker_X4_isWithin
theorem dX4_isSpeaker_0 : decode cX4_isSpeaker 0 = .ok (.iload_n 0, 1) := by decide +kernel
theorem dX4_isSpeaker_1 : decode cX4_isSpeaker 1 = .ok (.iconst 0, 1) := by decide +kernel
theorem dX4_isSpeaker_2 : decode cX4_isSpeaker 2 = .ok (.iconst 3, 1) := by decide +kernel
theorem dX4_isSpeaker_3 : decode cX4_isSpeaker 3 = .ok (.invokestatic 46, 3) := by decide +kernel
theorem dX4_isSpeaker_6 : decode cX4_isSpeaker 6 = .ok (.ireturn, 1) := by decide +kernel
set_option maxRecDepth 20000 in
theorem ggX4_isSet_X4_isWithin : GoodIn wsX4_isSet wsX4_isWithin := goodIn_r _ [4] (by decide +kernel) (by decide +kernel)
set_option maxRecDepth 20000 in
theorem gX4_isSet_X4_isWithin : GoodIn wsX4_isSet (va_wsS RX4 46 yX4_isWithin wsX4_isWithin) := goodIn_app (goodIn_of _ (by decide +kernel)) ggX4_isSet_X4_isWithin
theorem dX4_isSet_0 : decode cX4_isSet 0 = .ok (.iload_n 0, 1) := by decide +kernel
theorem dX4_isSet_1 : decode cX4_isSet 1 = .ok (.iconst 0, 1) := by decide +kernel
theorem dX4_isSet_2 : decode cX4_isSet 2 = .ok (.sipush 4095, 3) := by decide +kernel
theorem dX4_isSet_5 : decode cX4_isSet 5 = .ok (.invokestatic 46, 3) := by decide +kernel
theorem dX4_isSet_8 : decode cX4_isSet 8 = .ok (.ireturn, 1) := by decide +kernel
theorem dX4_isIn_0 : decode cX4_isIn 0 = .ok (.iload_n 1, 1) := by decide +kernel
theorem dX4_isIn_1 : decode cX4_isIn 1 = .ok (.iload_n 0, 1) := by decide +kernel
theorem dX4_isIn_2 : decode cX4_isIn 2 = .ok (.ishr, 1) := by decide +kernel
theorem dX4_isIn_3 : decode cX4_isIn 3 = .ok (.iconst 1, 1) := by decide +kernel
theorem dX4_isIn_4 : decode cX4_isIn 4 = .ok (.iand, 1) := by decide +kernel
theorem dX4_isIn_5 : decode cX4_isIn 5 = .ok (.iconst 1, 1) := by decide +kernel
theorem dX4_isIn_6 : decode cX4_isIn 6 = .ok (.if_icmp .ne 7, 3) := by decide +kernel
theorem dX4_isIn_9 : decode cX4_isIn 9 = .ok (.iconst 1, 1) := by decide +kernel
theorem dX4_isIn_10 : decode cX4_isIn 10 = .ok (.goto 4, 3) := by decide +kernel
theorem dX4_isIn_13 : decode cX4_isIn 13 = .ok (.iconst 0, 1) := by decide +kernel
theorem dX4_isIn_14 : decode cX4_isIn 14 = .ok (.ireturn, 1) := by decide +kernel
theorem dX4_power_0 : decode cX4_power 0 = .ok (.lconst 1, 1) := by decide +kernel
theorem dX4_power_1 : decode cX4_power 1 = .ok (.lstore_n 3, 1) := by decide +kernel
theorem dX4_power_2 : decode cX4_power 2 = .ok (.iconst 0, 1) := by decide +kernel
theorem dX4_power_3 : decode cX4_power 3 = .ok (.istore 5, 2) := by decide +kernel
theorem dX4_power_5 : decode cX4_power 5 = .ok (.iload 5, 2) := by decide +kernel
theorem dX4_power_7 : decode cX4_power 7 = .ok (.iload_n 2, 1) := by decide +kernel
theorem dX4_power_8 : decode cX4_power 8 = .ok (.if_icmp .ge 13, 3) := by decide +kernel
theorem dX4_power_11 : decode cX4_power 11 = .ok (.lload_n 3, 1) := by decide +kernel
theorem dX4_power_12 : decode cX4_power 12 = .ok (.lload_n 0, 1) := by decide +kernel
theorem dX4_power_13 : decode cX4_power 13 = .ok (.lmul, 1) := by decide +kernel
theorem dX4_power_14 : decode cX4_power 14 = .ok (.lstore_n 3, 1) := by decide +kernel
theorem dX4_power_15 : decode cX4_power 15 = .ok (.iinc 5 1, 3) := by decide +kernel
theorem dX4_power_18 : decode cX4_power 18 = .ok (.goto (-13), 3) := by decide +kernel
theorem dX4_power_21 : decode cX4_power 21 = .ok (.lload_n 3, 1) := by decide +kernel
theorem dX4_power_22 : decode cX4_power 22 = .ok (.lreturn, 1) := by decide +kernel
theorem dX4_sumOf_0 : decode cX4_sumOf 0 = .ok (.iconst 0, 1) := by decide +kernel
theorem dX4_sumOf_1 : decode cX4_sumOf 1 = .ok (.istore_n 1, 1) := by decide +kernel
theorem dX4_sumOf_2 : decode cX4_sumOf 2 = .ok (.iconst 0, 1) := by decide +kernel
theorem dX4_sumOf_3 : decode cX4_sumOf 3 = .ok (.istore_n 2, 1) := by decide +kernel
theorem dX4_sumOf_4 : decode cX4_sumOf 4 = .ok (.iload_n 2, 1) := by decide +kernel
theorem dX4_sumOf_5 : decode cX4_sumOf 5 = .ok (.aload_n 0, 1) := by decide +kernel
theorem dX4_sumOf_6 : decode cX4_sumOf 6 = .ok (.arraylength, 1) := by decide +kernel
theorem dX4_sumOf_7 : decode cX4_sumOf 7 = .ok (.if_icmp .ge 15, 3) := by decide +kernel
theorem dX4_sumOf_10 : decode cX4_sumOf 10 = .ok (.iload_n 1, 1) := by decide +kernel
theorem dX4_sumOf_11 : decode cX4_sumOf 11 = .ok (.aload_n 0, 1) := by decide +kernel
theorem dX4_sumOf_12 : decode cX4_sumOf 12 = .ok (.iload_n 2, 1) := by decide +kernel
theorem dX4_sumOf_13 : decode cX4_sumOf 13 = .ok (.iaload, 1) := by decide +kernel
theorem dX4_sumOf_14 : decode cX4_sumOf 14 = .ok (.iadd, 1) := by decide +kernel
theorem dX4_sumOf_15 : decode cX4_sumOf 15 = .ok (.istore_n 1, 1) := by decide +kernel
theorem dX4_sumOf_16 : decode cX4_sumOf 16 = .ok (.iinc 2 1, 3) := by decide +kernel
theorem dX4_sumOf_19 : decode cX4_sumOf 19 = .ok (.goto (-15), 3) := by decide +kernel
theorem dX4_sumOf_22 : decode cX4_sumOf 22 = .ok (.iload_n 1, 1) := by decide +kernel
theorem dX4_sumOf_23 : decode cX4_sumOf 23 = .ok (.ireturn, 1) := by decide +kernel
theorem dX4_copyRow_0 : decode cX4_copyRow 0 = .ok (.iconst 0, 1) := by decide +kernel
theorem dX4_copyRow_1 : decode cX4_copyRow 1 = .ok (.istore_n 2, 1) := by decide +kernel
theorem dX4_copyRow_2 : decode cX4_copyRow 2 = .ok (.iload_n 2, 1) := by decide +kernel
theorem dX4_copyRow_3 : decode cX4_copyRow 3 = .ok (.aload_n 0, 1) := by decide +kernel
theorem dX4_copyRow_4 : decode cX4_copyRow 4 = .ok (.arraylength, 1) := by decide +kernel
theorem dX4_copyRow_5 : decode cX4_copyRow 5 = .ok (.if_icmp .ge 21, 3) := by decide +kernel
theorem dX4_copyRow_8 : decode cX4_copyRow 8 = .ok (.iload_n 2, 1) := by decide +kernel
theorem dX4_copyRow_9 : decode cX4_copyRow 9 = .ok (.aload_n 1, 1) := by decide +kernel
theorem dX4_copyRow_10 : decode cX4_copyRow 10 = .ok (.arraylength, 1) := by decide +kernel
theorem dX4_copyRow_11 : decode cX4_copyRow 11 = .ok (.if_icmp .ge 15, 3) := by decide +kernel
theorem dX4_copyRow_14 : decode cX4_copyRow 14 = .ok (.aload_n 1, 1) := by decide +kernel
theorem dX4_copyRow_15 : decode cX4_copyRow 15 = .ok (.iload_n 2, 1) := by decide +kernel
theorem dX4_copyRow_16 : decode cX4_copyRow 16 = .ok (.aload_n 0, 1) := by decide +kernel
theorem dX4_copyRow_17 : decode cX4_copyRow 17 = .ok (.iload_n 2, 1) := by decide +kernel
theorem dX4_copyRow_18 : decode cX4_copyRow 18 = .ok (.iaload, 1) := by decide +kernel
theorem dX4_copyRow_19 : decode cX4_copyRow 19 = .ok (.iastore, 1) := by decide +kernel
theorem dX4_copyRow_20 : decode cX4_copyRow 20 = .ok (.iinc 2 1, 3) := by decide +kernel
theorem dX4_copyRow_23 : decode cX4_copyRow 23 = .ok (.goto (-21), 3) := by decide +kernel
theorem dX4_copyRow_26 : decode cX4_copyRow 26 = .ok (.return_, 1) := by decide +kernel
theorem dX5_init_0 : decode cX5_init 0 = .ok (.aload_n 0, 1) := by decide +kernel
theorem dX5_init_1 : decode cX5_init 1 = .ok (.invokespecial 1, 3) := by decide +kernel
theorem dX5_init_4 : decode cX5_init 4 = .ok (.aload_n 0, 1) := by decide +kernel
theorem dX5_init_5 : decode cX5_init 5 = .ok (.bipush 12, 2) := by decide +kernel
theorem dX5_init_7 : decode cX5_init 7 = .ok (.newarray .int, 2) := by decide +kernel
theorem dX5_init_9 : decode cX5_init 9 = .ok (.putfield 7, 3) := by decide +kernel
theorem dX5_init_12 : decode cX5_init 12 = .ok (.aload_n 0, 1) := by decide +kernel
theorem dX5_init_13 : decode cX5_init 13 = .ok (.bipush 12, 2) := by decide +kernel
theorem dX5_init_15 : decode cX5_init 15 = .ok (.newarray .int, 2) := by decide +kernel
theorem dX5_init_17 : decode cX5_init 17 = .ok (.putfield 13, 3) := by decide +kernel
theorem dX5_init_20 : decode cX5_init 20 = .ok (.aload_n 0, 1) := by decide +kernel
theorem dX5_init_21 : decode cX5_init 21 = .ok (.bipush 12, 2) := by decide +kernel
theorem dX5_init_23 : decode cX5_init 23 = .ok (.newarray .int, 2) := by decide +kernel
theorem dX5_init_25 : decode cX5_init 25 = .ok (.putfield 16, 3) := by decide +kernel
theorem dX5_init_28 : decode cX5_init 28 = .ok (.aload_n 0, 1) := by decide +kernel
theorem dX5_init_29 : decode cX5_init 29 = .ok (.iconst 4, 1) := by decide +kernel
theorem dX5_init_30 : decode cX5_init 30 = .ok (.newarray .int, 2) := by decide +kernel
theorem dX5_init_32 : decode cX5_init 32 = .ok (.putfield 19, 3) := by decide +kernel
theorem dX5_init_35 : decode cX5_init 35 = .ok (.aload_n 0, 1) := by decide +kernel
theorem dX5_init_36 : decode cX5_init 36 = .ok (.iconst 4, 1) := by decide +kernel
theorem dX5_init_37 : decode cX5_init 37 = .ok (.newarray .int, 2) := by decide +kernel
theorem dX5_init_39 : decode cX5_init 39 = .ok (.putfield 22, 3) := by decide +kernel
theorem dX5_init_42 : decode cX5_init 42 = .ok (.aload_n 0, 1) := by decide +kernel
theorem dX5_init_43 : decode cX5_init 43 = .ok (.bipush 8, 2) := by decide +kernel
theorem dX5_init_45 : decode cX5_init 45 = .ok (.newarray .int, 2) := by decide +kernel
theorem dX5_init_47 : decode cX5_init 47 = .ok (.putfield 25, 3) := by decide +kernel
theorem dX5_init_50 : decode cX5_init 50 = .ok (.aload_n 0, 1) := by decide +kernel
theorem dX5_init_51 : decode cX5_init 51 = .ok (.bipush 6, 2) := by decide +kernel
theorem dX5_init_53 : decode cX5_init 53 = .ok (.newarray .int, 2) := by decide +kernel
theorem dX5_init_55 : decode cX5_init 55 = .ok (.putfield 28, 3) := by decide +kernel
theorem dX5_init_58 : decode cX5_init 58 = .ok (.aload_n 0, 1) := by decide +kernel
theorem dX5_init_59 : decode cX5_init 59 = .ok (.bipush 6, 2) := by decide +kernel
theorem dX5_init_61 : decode cX5_init 61 = .ok (.newarray .int, 2) := by decide +kernel
theorem dX5_init_63 : decode cX5_init 63 = .ok (.putfield 31, 3) := by decide +kernel
theorem dX5_init_66 : decode cX5_init 66 = .ok (.aload_n 0, 1) := by decide +kernel
theorem dX5_init_67 : decode cX5_init 67 = .ok (.bipush 6, 2) := by decide +kernel
theorem dX5_init_69 : decode cX5_init 69 = .ok (.newarray .int, 2) := by decide +kernel
theorem dX5_init_71 : decode cX5_init 71 = .ok (.putfield 34, 3) := by decide +kernel
theorem dX5_init_74 : decode cX5_init 74 = .ok (.aload_n 0, 1) := by decide +kernel
theorem dX5_init_75 : decode cX5_init 75 = .ok (.bipush 60, 2) := by decide +kernel
theorem dX5_init_77 : decode cX5_init 77 = .ok (.newarray .int, 2) := by decide +kernel
theorem dX5_init_79 : decode cX5_init 79 = .ok (.putfield 37, 3) := by decide +kernel
theorem dX5_init_82 : decode cX5_init 82 = .ok (.aload_n 0, 1) := by decide +kernel
theorem dX5_init_83 : decode cX5_init 83 = .ok (.bipush 60, 2) := by decide +kernel
theorem dX5_init_85 : decode cX5_init 85 = .ok (.newarray .int, 2) := by decide +kernel
theorem dX5_init_87 : decode cX5_init 87 = .ok (.putfield 40, 3) := by decide +kernel
theorem dX5_init_90 : decode cX5_init 90 = .ok (.aload_n 0, 1) := by decide +kernel
theorem dX5_init_91 : decode cX5_init 91 = .ok (.bipush 60, 2) := by decide +kernel
theorem dX5_init_93 : decode cX5_init 93 = .ok (.newarray .int, 2) := by decide +kernel
theorem dX5_init_95 : decode cX5_init 95 = .ok (.putfield 43, 3) := by decide +kernel
theorem dX5_init_98 : decode cX5_init 98 = .ok (.aload_n 0, 1) := by decide +kernel
theorem dX5_init_99 : decode cX5_init 99 = .ok (.bipush 60, 2) := by decide +kernel
theorem dX5_init_101 : decode cX5_init 101 = .ok (.newarray .int, 2) := by decide +kernel
theorem dX5_init_103 : decode cX5_init 103 = .ok (.putfield 46, 3) := by decide +kernel
theorem dX5_init_106 : decode cX5_init 106 = .ok (.aload_n 0, 1) := by decide +kernel
theorem dX5_init_107 : decode cX5_init 107 = .ok (.bipush 60, 2) := by decide +kernel
theorem dX5_init_109 : decode cX5_init 109 = .ok (.newarray .int, 2) := by decide +kernel
theorem dX5_init_111 : decode cX5_init 111 = .ok (.putfield 49, 3) := by decide +kernel
theorem dX5_init_114 : decode cX5_init 114 = .ok (.aload_n 0, 1) := by decide +kernel
theorem dX5_init_115 : decode cX5_init 115 = .ok (.bipush 20, 2) := by decide +kernel
theorem dX5_init_117 : decode cX5_init 117 = .ok (.newarray .int, 2) := by decide +kernel
theorem dX5_init_119 : decode cX5_init 119 = .ok (.putfield 52, 3) := by decide +kernel
theorem dX5_init_122 : decode cX5_init 122 = .ok (.aload_n 0, 1) := by decide +kernel
theorem dX5_init_123 : decode cX5_init 123 = .ok (.bipush 50, 2) := by decide +kernel
theorem dX5_init_125 : decode cX5_init 125 = .ok (.newarray .long, 2) := by decide +kernel
theorem dX5_init_127 : decode cX5_init 127 = .ok (.putfield 55, 3) := by decide +kernel
theorem dX5_init_130 : decode cX5_init 130 = .ok (.aload_n 0, 1) := by decide +kernel
theorem dX5_init_131 : decode cX5_init 131 = .ok (.bipush 50, 2) := by decide +kernel
theorem dX5_init_133 : decode cX5_init 133 = .ok (.newarray .long, 2) := by decide +kernel
theorem dX5_init_135 : decode cX5_init 135 = .ok (.putfield 59, 3) := by decide +kernel
theorem dX5_init_138 : decode cX5_init 138 = .ok (.aload_n 0, 1) := by decide +kernel
theorem dX5_init_139 : decode cX5_init 139 = .ok (.sipush 180, 3) := by decide +kernel
theorem dX5_init_142 : decode cX5_init 142 = .ok (.newarray .int, 2) := by decide +kernel
theorem dX5_init_144 : decode cX5_init 144 = .ok (.putfield 62, 3) := by decide +kernel
theorem dX5_init_147 : decode cX5_init 147 = .ok (.aload_n 0, 1) := by decide +kernel
theorem dX5_init_148 : decode cX5_init 148 = .ok (.iconst 2, 1) := by decide +kernel
theorem dX5_init_149 : decode cX5_init 149 = .ok (.newarray .boolean, 2) := by decide +kernel
theorem dX5_init_151 : decode cX5_init 151 = .ok (.putfield 65, 3) := by decide +kernel
theorem dX5_init_154 : decode cX5_init 154 = .ok (.iconst 0, 1) := by decide +kernel
theorem dX5_init_155 : decode cX5_init 155 = .ok (.istore_n 1, 1) := by decide +kernel
theorem dX5_init_156 : decode cX5_init 156 = .ok (.iload_n 1, 1) := by decide +kernel
theorem dX5_init_157 : decode cX5_init 157 = .ok (.bipush 12, 2) := by decide +kernel
theorem dX5_init_159 : decode cX5_init 159 = .ok (.if_icmp .ge 24, 3) := by decide +kernel
theorem dX5_init_162 : decode cX5_init 162 = .ok (.aload_n 0, 1) := by decide +kernel
theorem dX5_init_163 : decode cX5_init 163 = .ok (.getfield 7, 3) := by decide +kernel
theorem dX5_init_166 : decode cX5_init 166 = .ok (.iload_n 1, 1) := by decide +kernel
theorem dX5_init_167 : decode cX5_init 167 = .ok (.bipush 10, 2) := by decide +kernel
theorem dX5_init_169 : decode cX5_init 169 = .ok (.iastore, 1) := by decide +kernel
theorem dX5_init_170 : decode cX5_init 170 = .ok (.aload_n 0, 1) := by decide +kernel
theorem dX5_init_171 : decode cX5_init 171 = .ok (.getfield 16, 3) := by decide +kernel
theorem dX5_init_174 : decode cX5_init 174 = .ok (.iload_n 1, 1) := by decide +kernel
theorem dX5_init_175 : decode cX5_init 175 = .ok (.iload_n 1, 1) := by decide +kernel
theorem dX5_init_176 : decode cX5_init 176 = .ok (.iastore, 1) := by decide +kernel
theorem dX5_init_177 : decode cX5_init 177 = .ok (.iinc 1 1, 3) := by decide +kernel
theorem dX5_init_180 : decode cX5_init 180 = .ok (.goto (-24), 3) := by decide +kernel
theorem dX5_init_183 : decode cX5_init 183 = .ok (.iconst 0, 1) := by decide +kernel
theorem dX5_init_184 : decode cX5_init 184 = .ok (.istore_n 1, 1) := by decide +kernel
theorem dX5_init_185 : decode cX5_init 185 = .ok (.iload_n 1, 1) := by decide +kernel
theorem dX5_init_186 : decode cX5_init 186 = .ok (.iconst 4, 1) := by decide +kernel
theorem dX5_init_187 : decode cX5_init 187 = .ok (.if_icmp .ge 17, 3) := by decide +kernel
theorem dX5_init_190 : decode cX5_init 190 = .ok (.aload_n 0, 1) := by decide +kernel
theorem dX5_init_191 : decode cX5_init 191 = .ok (.getfield 19, 3) := by decide +kernel
theorem dX5_init_194 : decode cX5_init 194 = .ok (.iload_n 1, 1) := by decide +kernel
theorem dX5_init_195 : decode cX5_init 195 = .ok (.bipush 50, 2) := by decide +kernel
theorem dX5_init_197 : decode cX5_init 197 = .ok (.iastore, 1) := by decide +kernel
theorem dX5_init_198 : decode cX5_init 198 = .ok (.iinc 1 1, 3) := by decide +kernel
theorem dX5_init_201 : decode cX5_init 201 = .ok (.goto (-16), 3) := by decide +kernel
theorem dX5_init_204 : decode cX5_init 204 = .ok (.return_, 1) := by decide +kernel
theorem dX5_in_0 : decode cX5_in 0 = .ok (.lload_n 0, 1) := by decide +kernel
theorem dX5_in_1 : decode cX5_in 1 = .ok (.lload_n 2, 1) := by decide +kernel
theorem dX5_in_2 : decode cX5_in 2 = .ok (.lcmp, 1) := by decide +kernel
theorem dX5_in_3 : decode cX5_in 3 = .ok (.ifCond .lt 14, 3) := by decide +kernel
theorem dX5_in_6 : decode cX5_in 6 = .ok (.lload_n 0, 1) := by decide +kernel
theorem dX5_in_7 : decode cX5_in 7 = .ok (.lload 4, 2) := by decide +kernel
theorem dX5_in_9 : decode cX5_in 9 = .ok (.lcmp, 1) := by decide +kernel
theorem dX5_in_10 : decode cX5_in 10 = .ok (.ifCond .gt 7, 3) := by decide +kernel
theorem dX5_in_13 : decode cX5_in 13 = .ok (.iconst 1, 1) := by decide +kernel
theorem dX5_in_14 : decode cX5_in 14 = .ok (.goto 4, 3) := by decide +kernel
theorem dX5_in_17 : decode cX5_in 17 = .ok (.iconst 0, 1) := by decide +kernel
theorem dX5_in_18 : decode cX5_in 18 = .ok (.ireturn, 1) := by decide +kernel
theorem dX5_ones_0 : decode cX5_ones 0 = .ok (.iconst 0, 1) := by decide +kernel
theorem dX5_ones_1 : decode cX5_ones 1 = .ok (.istore_n 1, 1) := by decide +kernel
theorem dX5_ones_2 : decode cX5_ones 2 = .ok (.iload_n 0, 1) := by decide +kernel
theorem dX5_ones_3 : decode cX5_ones 3 = .ok (.istore_n 2, 1) := by decide +kernel
theorem dX5_ones_4 : decode cX5_ones 4 = .ok (.iload_n 2, 1) := by decide +kernel
theorem dX5_ones_5 : decode cX5_ones 5 = .ok (.ifCond .eq 15, 3) := by decide +kernel
theorem dX5_ones_8 : decode cX5_ones 8 = .ok (.iinc 1 1, 3) := by decide +kernel
theorem dX5_ones_11 : decode cX5_ones 11 = .ok (.iload_n 2, 1) := by decide +kernel
theorem dX5_ones_12 : decode cX5_ones 12 = .ok (.iload_n 2, 1) := by decide +kernel
theorem dX5_ones_13 : decode cX5_ones 13 = .ok (.iconst 1, 1) := by decide +kernel
