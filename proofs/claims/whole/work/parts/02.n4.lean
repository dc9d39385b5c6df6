theorem dX5_ones_14 : decode cX5_ones 14 = .ok (.isub, 1) := by decide +kernel
theorem dX5_ones_15 : decode cX5_ones 15 = .ok (.iand, 1) := by decide +kernel
theorem dX5_ones_16 : decode cX5_ones 16 = .ok (.istore_n 2, 1) := by decide +kernel
theorem dX5_ones_17 : decode cX5_ones 17 = .ok (.goto (-13), 3) := by decide +kernel
theorem dX5_ones_20 : decode cX5_ones 20 = .ok (.iload_n 1, 1) := by decide +kernel
theorem dX5_ones_21 : decode cX5_ones 21 = .ok (.ireturn, 1) := by decide +kernel
set_option maxRecDepth 20000 in
theorem ggX5_isWord_X5_in : GoodIn wsX5_isWord wsX5_in := goodIn_r _ [5] (by decide +kernel) (by decide +kernel)
set_option maxRecDepth 20000 in
theorem gX5_isWord_X5_in : GoodIn wsX5_isWord (va_wsS RX5 71 yX5_in wsX5_in) := goodIn_app (goodIn_of _ (by decide +kernel)) ggX5_isWord_X5_in
theorem dX5_isWord_0 : decode cX5_isWord 0 = .ok (.iload_n 0, 1) := by decide +kernel
theorem dX5_isWord_1 : decode cX5_isWord 1 = .ok (.i2l, 1) := by decide +kernel
theorem dX5_isWord_2 : decode cX5_isWord 2 = .ok (.lconst 0, 1) := by decide +kernel
theorem dX5_isWord_3 : decode cX5_isWord 3 = .ok (.ldc2_w 69, 3) := by decide +kernel
theorem dX5_isWord_6 : decode cX5_isWord 6 = .ok (.invokestatic 71, 3) := by decide +kernel
theorem dX5_isWord_9 : decode cX5_isWord 9 = .ok (.ireturn, 1) := by decide +kernel
set_option maxRecDepth 20000 in
theorem ggX5_isSpeaker_X5_in : GoodIn wsX5_isSpeaker wsX5_in := goodIn_r _ [5] (by decide +kernel) (by decide +kernel)
set_option maxRecDepth 20000 in
theorem gX5_isSpeaker_X5_in : GoodIn wsX5_isSpeaker (va_wsS RX5 71 yX5_in wsX5_in) := goodIn_app (goodIn_of _ (by decide +kernel)) ggX5_isSpeaker_X5_in
theorem dX5_isSpeaker_0 : decode cX5_isSpeaker 0 = .ok (.iload_n 0, 1) := by decide +kernel
theorem dX5_isSpeaker_1 : decode cX5_isSpeaker 1 = .ok (.i2l, 1) := by decide +kernel
theorem dX5_isSpeaker_2 : decode cX5_isSpeaker 2 = .ok (.lconst 0, 1) := by decide +kernel
theorem dX5_isSpeaker_3 : decode cX5_isSpeaker 3 = .ok (.ldc2_w 75, 3) := by decide +kernel
theorem dX5_isSpeaker_6 : decode cX5_isSpeaker 6 = .ok (.invokestatic 71, 3) := by decide +kernel
theorem dX5_isSpeaker_9 : decode cX5_isSpeaker 9 = .ok (.ireturn, 1) := by decide +kernel
set_option maxRecDepth 20000 in
theorem ggX5_word_X5_isWord : GoodIn wsX5_word wsX5_isWord := goodIn_r _ [8, 9, 10, 11, 7, 12] (by decide +kernel) (by decide +kernel)
set_option maxRecDepth 20000 in
theorem gX5_word_X5_isWord : GoodIn wsX5_word (va_wsS RX5 77 yX5_isWord wsX5_isWord) := goodIn_app (goodIn_of _ (by decide +kernel)) ggX5_word_X5_isWord
set_option maxRecDepth 20000 in
theorem ggX5_word_X5_in : GoodIn wsX5_word wsX5_in := goodIn_r _ [12] (by decide +kernel) (by decide +kernel)
set_option maxRecDepth 20000 in
theorem gX5_word_X5_in : GoodIn wsX5_word (va_wsS RX5 71 yX5_in wsX5_in) := goodIn_app (goodIn_of _ (by decide +kernel)) ggX5_word_X5_in
theorem dX5_word_0 : decode cX5_word 0 = .ok (.iload_n 1, 1) := by decide +kernel
theorem dX5_word_1 : decode cX5_word 1 = .ok (.invokestatic 77, 3) := by decide +kernel
theorem dX5_word_4 : decode cX5_word 4 = .ok (.ifCond .ne 5, 3) := by decide +kernel
theorem dX5_word_7 : decode cX5_word 7 = .ok (.iconst (-1), 1) := by decide +kernel
theorem dX5_word_8 : decode cX5_word 8 = .ok (.ireturn, 1) := by decide +kernel
theorem dX5_word_9 : decode cX5_word 9 = .ok (.iload_n 2, 1) := by decide +kernel
theorem dX5_word_10 : decode cX5_word 10 = .ok (.i2l, 1) := by decide +kernel
theorem dX5_word_11 : decode cX5_word 11 = .ok (.lconst 0, 1) := by decide +kernel
theorem dX5_word_12 : decode cX5_word 12 = .ok (.ldc2_w 81, 3) := by decide +kernel
theorem dX5_word_15 : decode cX5_word 15 = .ok (.invokestatic 71, 3) := by decide +kernel
theorem dX5_word_18 : decode cX5_word 18 = .ok (.ifCond .eq 15, 3) := by decide +kernel
theorem dX5_word_21 : decode cX5_word 21 = .ok (.iload_n 3, 1) := by decide +kernel
theorem dX5_word_22 : decode cX5_word 22 = .ok (.i2l, 1) := by decide +kernel
theorem dX5_word_23 : decode cX5_word 23 = .ok (.lconst 0, 1) := by decide +kernel
theorem dX5_word_24 : decode cX5_word 24 = .ok (.ldc2_w 83, 3) := by decide +kernel
theorem dX5_word_27 : decode cX5_word 27 = .ok (.invokestatic 71, 3) := by decide +kernel
theorem dX5_word_30 : decode cX5_word 30 = .ok (.ifCond .ne 6, 3) := by decide +kernel
theorem dX5_word_33 : decode cX5_word 33 = .ok (.bipush (-2), 2) := by decide +kernel
theorem dX5_word_35 : decode cX5_word 35 = .ok (.ireturn, 1) := by decide +kernel
theorem dX5_word_36 : decode cX5_word 36 = .ok (.aload_n 0, 1) := by decide +kernel
theorem dX5_word_37 : decode cX5_word 37 = .ok (.getfield 7, 3) := by decide +kernel
theorem dX5_word_40 : decode cX5_word 40 = .ok (.iload_n 1, 1) := by decide +kernel
theorem dX5_word_41 : decode cX5_word 41 = .ok (.iaload, 1) := by decide +kernel
theorem dX5_word_42 : decode cX5_word 42 = .ok (.istore 4, 2) := by decide +kernel
theorem dX5_word_44 : decode cX5_word 44 = .ok (.aload_n 0, 1) := by decide +kernel
theorem dX5_word_45 : decode cX5_word 45 = .ok (.getfield 7, 3) := by decide +kernel
theorem dX5_word_48 : decode cX5_word 48 = .ok (.iload_n 1, 1) := by decide +kernel
theorem dX5_word_49 : decode cX5_word 49 = .ok (.iload_n 2, 1) := by decide +kernel
theorem dX5_word_50 : decode cX5_word 50 = .ok (.iastore, 1) := by decide +kernel
theorem dX5_word_51 : decode cX5_word 51 = .ok (.aload_n 0, 1) := by decide +kernel
theorem dX5_word_52 : decode cX5_word 52 = .ok (.getfield 13, 3) := by decide +kernel
theorem dX5_word_55 : decode cX5_word 55 = .ok (.iload_n 1, 1) := by decide +kernel
theorem dX5_word_56 : decode cX5_word 56 = .ok (.iload_n 3, 1) := by decide +kernel
theorem dX5_word_57 : decode cX5_word 57 = .ok (.iastore, 1) := by decide +kernel
theorem dX5_word_58 : decode cX5_word 58 = .ok (.iload 4, 2) := by decide +kernel
theorem dX5_word_60 : decode cX5_word 60 = .ok (.ireturn, 1) := by decide +kernel
theorem dX5_rhymesOf_0 : decode cX5_rhymesOf 0 = .ok (.iconst 0, 1) := by decide +kernel
theorem dX5_rhymesOf_1 : decode cX5_rhymesOf 1 = .ok (.istore_n 2, 1) := by decide +kernel
theorem dX5_rhymesOf_2 : decode cX5_rhymesOf 2 = .ok (.iconst 0, 1) := by decide +kernel
theorem dX5_rhymesOf_3 : decode cX5_rhymesOf 3 = .ok (.istore_n 3, 1) := by decide +kernel
theorem dX5_rhymesOf_4 : decode cX5_rhymesOf 4 = .ok (.iload_n 3, 1) := by decide +kernel
theorem dX5_rhymesOf_5 : decode cX5_rhymesOf 5 = .ok (.bipush 12, 2) := by decide +kernel
theorem dX5_rhymesOf_7 : decode cX5_rhymesOf 7 = .ok (.if_icmp .ge 39, 3) := by decide +kernel
theorem dX5_rhymesOf_10 : decode cX5_rhymesOf 10 = .ok (.iload_n 2, 1) := by decide +kernel
theorem dX5_rhymesOf_11 : decode cX5_rhymesOf 11 = .ok (.iload_n 3, 1) := by decide +kernel
theorem dX5_rhymesOf_12 : decode cX5_rhymesOf 12 = .ok (.iload_n 1, 1) := by decide +kernel
theorem dX5_rhymesOf_13 : decode cX5_rhymesOf 13 = .ok (.if_icmp .eq 24, 3) := by decide +kernel
theorem dX5_rhymesOf_16 : decode cX5_rhymesOf 16 = .ok (.aload_n 0, 1) := by decide +kernel
theorem dX5_rhymesOf_17 : decode cX5_rhymesOf 17 = .ok (.getfield 16, 3) := by decide +kernel
theorem dX5_rhymesOf_20 : decode cX5_rhymesOf 20 = .ok (.iload_n 3, 1) := by decide +kernel
theorem dX5_rhymesOf_21 : decode cX5_rhymesOf 21 = .ok (.iaload, 1) := by decide +kernel
theorem dX5_rhymesOf_22 : decode cX5_rhymesOf 22 = .ok (.aload_n 0, 1) := by decide +kernel
theorem dX5_rhymesOf_23 : decode cX5_rhymesOf 23 = .ok (.getfield 16, 3) := by decide +kernel
theorem dX5_rhymesOf_26 : decode cX5_rhymesOf 26 = .ok (.iload_n 1, 1) := by decide +kernel
theorem dX5_rhymesOf_27 : decode cX5_rhymesOf 27 = .ok (.iaload, 1) := by decide +kernel
theorem dX5_rhymesOf_28 : decode cX5_rhymesOf 28 = .ok (.if_icmp .ne 9, 3) := by decide +kernel
theorem dX5_rhymesOf_31 : decode cX5_rhymesOf 31 = .ok (.iconst 1, 1) := by decide +kernel
theorem dX5_rhymesOf_32 : decode cX5_rhymesOf 32 = .ok (.iload_n 3, 1) := by decide +kernel
theorem dX5_rhymesOf_33 : decode cX5_rhymesOf 33 = .ok (.ishl, 1) := by decide +kernel
theorem dX5_rhymesOf_34 : decode cX5_rhymesOf 34 = .ok (.goto 4, 3) := by decide +kernel
theorem dX5_rhymesOf_37 : decode cX5_rhymesOf 37 = .ok (.iconst 0, 1) := by decide +kernel
theorem dX5_rhymesOf_38 : decode cX5_rhymesOf 38 = .ok (.ior, 1) := by decide +kernel
theorem dX5_rhymesOf_39 : decode cX5_rhymesOf 39 = .ok (.istore_n 2, 1) := by decide +kernel
theorem dX5_rhymesOf_40 : decode cX5_rhymesOf 40 = .ok (.iinc 3 1, 3) := by decide +kernel
theorem dX5_rhymesOf_43 : decode cX5_rhymesOf 43 = .ok (.goto (-39), 3) := by decide +kernel
theorem dX5_rhymesOf_46 : decode cX5_rhymesOf 46 = .ok (.iload_n 2, 1) := by decide +kernel
theorem dX5_rhymesOf_47 : decode cX5_rhymesOf 47 = .ok (.ireturn, 1) := by decide +kernel
set_option maxRecDepth 20000 in
theorem ggX5_rhyme_X5_isWord : GoodIn wsX5_rhyme wsX5_isWord := goodIn_r _ [5, 6, 7, 8, 4, 9] (by decide +kernel) (by decide +kernel)
set_option maxRecDepth 20000 in
theorem gX5_rhyme_X5_isWord : GoodIn wsX5_rhyme (va_wsS RX5 77 yX5_isWord wsX5_isWord) := goodIn_app (goodIn_of _ (by decide +kernel)) ggX5_rhyme_X5_isWord
set_option maxRecDepth 20000 in
theorem ggX5_rhyme_X5_rhymesOf : GoodIn wsX5_rhyme wsX5_rhymesOf := goodIn_r _ [13, 1, 17, 18, 19, 20, 21, 22, 23, 24, 25, 26, 27, 28, 29, 30, 31, 32, 33, 34, 35, 36, 37, 38, 39, 40, 41, 42, 43, 44, 45, 46, 47, 48, 49] (by decide +kernel) (by decide +kernel)
set_option maxRecDepth 20000 in
theorem gX5_rhyme_X5_rhymesOf : GoodIn wsX5_rhyme (wsV RX5 85 RX5 yX5_rhymesOf wsX5_rhymesOf) := goodIn_app (goodIn_of _ (by decide +kernel)) ggX5_rhyme_X5_rhymesOf
set_option maxRecDepth 20000 in
theorem ggX5_rhyme_X5_ones : GoodIn wsX5_rhyme wsX5_ones := goodIn_r _ [16] (by decide +kernel) (by decide +kernel)
set_option maxRecDepth 20000 in
theorem gX5_rhyme_X5_ones : GoodIn wsX5_rhyme (va_wsS RX5 89 yX5_ones wsX5_ones) := goodIn_app (goodIn_of _ (by decide +kernel)) ggX5_rhyme_X5_ones
theorem dX5_rhyme_0 : decode cX5_rhyme 0 = .ok (.iload_n 1, 1) := by decide +kernel
theorem dX5_rhyme_1 : decode cX5_rhyme 1 = .ok (.invokestatic 77, 3) := by decide +kernel
theorem dX5_rhyme_4 : decode cX5_rhyme 4 = .ok (.ifCond .eq 15, 3) := by decide +kernel
theorem dX5_rhyme_7 : decode cX5_rhyme 7 = .ok (.iload_n 2, 1) := by decide +kernel
theorem dX5_rhyme_8 : decode cX5_rhyme 8 = .ok (.invokestatic 77, 3) := by decide +kernel
theorem dX5_rhyme_11 : decode cX5_rhyme 11 = .ok (.ifCond .eq 8, 3) := by decide +kernel
theorem dX5_rhyme_14 : decode cX5_rhyme 14 = .ok (.iload_n 1, 1) := by decide +kernel
theorem dX5_rhyme_15 : decode cX5_rhyme 15 = .ok (.iload_n 2, 1) := by decide +kernel
theorem dX5_rhyme_16 : decode cX5_rhyme 16 = .ok (.if_icmp .ne 5, 3) := by decide +kernel
theorem dX5_rhyme_19 : decode cX5_rhyme 19 = .ok (.iconst (-1), 1) := by decide +kernel
theorem dX5_rhyme_20 : decode cX5_rhyme 20 = .ok (.ireturn, 1) := by decide +kernel
theorem dX5_rhyme_21 : decode cX5_rhyme 21 = .ok (.aload_n 0, 1) := by decide +kernel
theorem dX5_rhyme_22 : decode cX5_rhyme 22 = .ok (.getfield 16, 3) := by decide +kernel
theorem dX5_rhyme_25 : decode cX5_rhyme 25 = .ok (.iload_n 2, 1) := by decide +kernel
theorem dX5_rhyme_26 : decode cX5_rhyme 26 = .ok (.iaload, 1) := by decide +kernel
theorem dX5_rhyme_27 : decode cX5_rhyme 27 = .ok (.istore_n 3, 1) := by decide +kernel
theorem dX5_rhyme_28 : decode cX5_rhyme 28 = .ok (.aload_n 0, 1) := by decide +kernel
theorem dX5_rhyme_29 : decode cX5_rhyme 29 = .ok (.getfield 16, 3) := by decide +kernel
theorem dX5_rhyme_32 : decode cX5_rhyme 32 = .ok (.iload_n 1, 1) := by decide +kernel
theorem dX5_rhyme_33 : decode cX5_rhyme 33 = .ok (.iaload, 1) := by decide +kernel
theorem dX5_rhyme_34 : decode cX5_rhyme 34 = .ok (.istore 4, 2) := by decide +kernel
theorem dX5_rhyme_36 : decode cX5_rhyme 36 = .ok (.iconst 0, 1) := by decide +kernel
theorem dX5_rhyme_37 : decode cX5_rhyme 37 = .ok (.istore 5, 2) := by decide +kernel
theorem dX5_rhyme_39 : decode cX5_rhyme 39 = .ok (.iload 5, 2) := by decide +kernel
theorem dX5_rhyme_41 : decode cX5_rhyme 41 = .ok (.bipush 12, 2) := by decide +kernel
theorem dX5_rhyme_43 : decode cX5_rhyme 43 = .ok (.if_icmp .ge 39, 3) := by decide +kernel
theorem dX5_rhyme_46 : decode cX5_rhyme 46 = .ok (.aload_n 0, 1) := by decide +kernel
theorem dX5_rhyme_47 : decode cX5_rhyme 47 = .ok (.getfield 16, 3) := by decide +kernel
theorem dX5_rhyme_50 : decode cX5_rhyme 50 = .ok (.iload 5, 2) := by decide +kernel
theorem dX5_rhyme_52 : decode cX5_rhyme 52 = .ok (.aload_n 0, 1) := by decide +kernel
theorem dX5_rhyme_53 : decode cX5_rhyme 53 = .ok (.getfield 16, 3) := by decide +kernel
theorem dX5_rhyme_56 : decode cX5_rhyme 56 = .ok (.iload 5, 2) := by decide +kernel
theorem dX5_rhyme_58 : decode cX5_rhyme 58 = .ok (.iaload, 1) := by decide +kernel
theorem dX5_rhyme_59 : decode cX5_rhyme 59 = .ok (.iload_n 3, 1) := by decide +kernel
theorem dX5_rhyme_60 : decode cX5_rhyme 60 = .ok (.if_icmp .ne 8, 3) := by decide +kernel
theorem dX5_rhyme_63 : decode cX5_rhyme 63 = .ok (.iload 4, 2) := by decide +kernel
theorem dX5_rhyme_65 : decode cX5_rhyme 65 = .ok (.goto 10, 3) := by decide +kernel
theorem dX5_rhyme_68 : decode cX5_rhyme 68 = .ok (.aload_n 0, 1) := by decide +kernel
theorem dX5_rhyme_69 : decode cX5_rhyme 69 = .ok (.getfield 16, 3) := by decide +kernel
theorem dX5_rhyme_72 : decode cX5_rhyme 72 = .ok (.iload 5, 2) := by decide +kernel
theorem dX5_rhyme_74 : decode cX5_rhyme 74 = .ok (.iaload, 1) := by decide +kernel
theorem dX5_rhyme_75 : decode cX5_rhyme 75 = .ok (.iastore, 1) := by decide +kernel
theorem dX5_rhyme_76 : decode cX5_rhyme 76 = .ok (.iinc 5 1, 3) := by decide +kernel
theorem dX5_rhyme_79 : decode cX5_rhyme 79 = .ok (.goto (-40), 3) := by decide +kernel
theorem dX5_rhyme_82 : decode cX5_rhyme 82 = .ok (.aload_n 0, 1) := by decide +kernel
theorem dX5_rhyme_83 : decode cX5_rhyme 83 = .ok (.iload_n 1, 1) := by decide +kernel
theorem dX5_rhyme_84 : decode cX5_rhyme 84 = .ok (.invokevirtual 85, 3) := by decide +kernel
theorem dX5_rhyme_87 : decode cX5_rhyme 87 = .ok (.invokestatic 89, 3) := by decide +kernel
theorem dX5_rhyme_90 : decode cX5_rhyme 90 = .ok (.ireturn, 1) := by decide +kernel
theorem dX5_freeRhyme_0 : decode cX5_freeRhyme 0 = .ok (.iconst 0, 1) := by decide +kernel
theorem dX5_freeRhyme_1 : decode cX5_freeRhyme 1 = .ok (.istore_n 2, 1) := by decide +kernel
theorem dX5_freeRhyme_2 : decode cX5_freeRhyme 2 = .ok (.bipush 11, 2) := by decide +kernel
theorem dX5_freeRhyme_4 : decode cX5_freeRhyme 4 = .ok (.istore_n 3, 1) := by decide +kernel
theorem dX5_freeRhyme_5 : decode cX5_freeRhyme 5 = .ok (.iload_n 3, 1) := by decide +kernel
theorem dX5_freeRhyme_6 : decode cX5_freeRhyme 6 = .ok (.ifCond .lt 68, 3) := by decide +kernel
theorem dX5_freeRhyme_9 : decode cX5_freeRhyme 9 = .ok (.iconst 0, 1) := by decide +kernel
theorem dX5_freeRhyme_10 : decode cX5_freeRhyme 10 = .ok (.istore 4, 2) := by decide +kernel
theorem dX5_freeRhyme_12 : decode cX5_freeRhyme 12 = .ok (.iconst 0, 1) := by decide +kernel
theorem dX5_freeRhyme_13 : decode cX5_freeRhyme 13 = .ok (.istore 5, 2) := by decide +kernel
theorem dX5_freeRhyme_15 : decode cX5_freeRhyme 15 = .ok (.iload 5, 2) := by decide +kernel
theorem dX5_freeRhyme_17 : decode cX5_freeRhyme 17 = .ok (.bipush 12, 2) := by decide +kernel
theorem dX5_freeRhyme_19 : decode cX5_freeRhyme 19 = .ok (.if_icmp .ge 38, 3) := by decide +kernel
theorem dX5_freeRhyme_22 : decode cX5_freeRhyme 22 = .ok (.iload 4, 2) := by decide +kernel
theorem dX5_freeRhyme_24 : decode cX5_freeRhyme 24 = .ok (.ifCond .ne 20, 3) := by decide +kernel
theorem dX5_freeRhyme_27 : decode cX5_freeRhyme 27 = .ok (.iload 5, 2) := by decide +kernel
theorem dX5_freeRhyme_29 : decode cX5_freeRhyme 29 = .ok (.iload_n 1, 1) := by decide +kernel
theorem dX5_freeRhyme_30 : decode cX5_freeRhyme 30 = .ok (.if_icmp .eq 18, 3) := by decide +kernel
theorem dX5_freeRhyme_33 : decode cX5_freeRhyme 33 = .ok (.aload_n 0, 1) := by decide +kernel
theorem dX5_freeRhyme_34 : decode cX5_freeRhyme 34 = .ok (.getfield 16, 3) := by decide +kernel
theorem dX5_freeRhyme_37 : decode cX5_freeRhyme 37 = .ok (.iload 5, 2) := by decide +kernel
theorem dX5_freeRhyme_39 : decode cX5_freeRhyme 39 = .ok (.iaload, 1) := by decide +kernel
theorem dX5_freeRhyme_40 : decode cX5_freeRhyme 40 = .ok (.iload_n 3, 1) := by decide +kernel
theorem dX5_freeRhyme_41 : decode cX5_freeRhyme 41 = .ok (.if_icmp .ne 7, 3) := by decide +kernel
theorem dX5_freeRhyme_44 : decode cX5_freeRhyme 44 = .ok (.iconst 1, 1) := by decide +kernel
theorem dX5_freeRhyme_45 : decode cX5_freeRhyme 45 = .ok (.goto 4, 3) := by decide +kernel
theorem dX5_freeRhyme_48 : decode cX5_freeRhyme 48 = .ok (.iconst 0, 1) := by decide +kernel
theorem dX5_freeRhyme_49 : decode cX5_freeRhyme 49 = .ok (.istore 4, 2) := by decide +kernel
theorem dX5_freeRhyme_51 : decode cX5_freeRhyme 51 = .ok (.iinc 5 1, 3) := by decide +kernel
theorem dX5_freeRhyme_54 : decode cX5_freeRhyme 54 = .ok (.goto (-39), 3) := by decide +kernel
theorem dX5_freeRhyme_57 : decode cX5_freeRhyme 57 = .ok (.iload 4, 2) := by decide +kernel
theorem dX5_freeRhyme_59 : decode cX5_freeRhyme 59 = .ok (.ifCond .eq 7, 3) := by decide +kernel
theorem dX5_freeRhyme_62 : decode cX5_freeRhyme 62 = .ok (.iload_n 2, 1) := by decide +kernel
theorem dX5_freeRhyme_63 : decode cX5_freeRhyme 63 = .ok (.goto 4, 3) := by decide +kernel
theorem dX5_freeRhyme_66 : decode cX5_freeRhyme 66 = .ok (.iload_n 3, 1) := by decide +kernel
theorem dX5_freeRhyme_67 : decode cX5_freeRhyme 67 = .ok (.istore_n 2, 1) := by decide +kernel
theorem dX5_freeRhyme_68 : decode cX5_freeRhyme 68 = .ok (.iinc 3 (-1), 3) := by decide +kernel
theorem dX5_freeRhyme_71 : decode cX5_freeRhyme 71 = .ok (.goto (-66), 3) := by decide +kernel
theorem dX5_freeRhyme_74 : decode cX5_freeRhyme 74 = .ok (.iload_n 2, 1) := by decide +kernel
theorem dX5_freeRhyme_75 : decode cX5_freeRhyme 75 = .ok (.ireturn, 1) := by decide +kernel
set_option maxRecDepth 20000 in
theorem ggX5_part_X5_isWord : GoodIn wsX5_part wsX5_isWord := goodIn_r _ [5, 6, 7, 8, 4, 9] (by decide +kernel) (by decide +kernel)
set_option maxRecDepth 20000 in
theorem gX5_part_X5_isWord : GoodIn wsX5_part (va_wsS RX5 77 yX5_isWord wsX5_isWord) := goodIn_app (goodIn_of _ (by decide +kernel)) ggX5_part_X5_isWord
set_option maxRecDepth 20000 in
theorem ggX5_part_X5_rhymesOf : GoodIn wsX5_part wsX5_rhymesOf := goodIn_r _ [13, 1, 21, 22, 23, 24, 25, 26, 27, 28, 29, 30, 31, 32, 33, 34, 35, 36, 37, 38, 39, 40, 41, 42, 43, 44, 45, 46, 47, 48, 49, 50, 51, 52, 53] (by decide +kernel) (by decide +kernel)
set_option maxRecDepth 20000 in
theorem gX5_part_X5_rhymesOf : GoodIn wsX5_part (wsV RX5 85 RX5 yX5_rhymesOf wsX5_rhymesOf) := goodIn_app (goodIn_of _ (by decide +kernel)) ggX5_part_X5_rhymesOf
set_option maxRecDepth 20000 in
theorem ggX5_part_X5_ones : GoodIn wsX5_part wsX5_ones := goodIn_r _ [16] (by decide +kernel) (by decide +kernel)
set_option maxRecDepth 20000 in
theorem gX5_part_X5_ones : GoodIn wsX5_part (va_wsS RX5 89 yX5_ones wsX5_ones) := goodIn_app (goodIn_of _ (by decide +kernel)) ggX5_part_X5_ones
set_option maxRecDepth 20000 in
theorem ggX5_part_X5_freeRhyme : GoodIn wsX5_part wsX5_freeRhyme := goodIn_r _ [20, 1, 21, 22, 23, 24, 25, 26, 27, 28, 29, 30, 31, 32, 33, 34, 35, 36, 37, 38, 39, 40, 41, 42, 43, 44, 45, 46, 47, 48, 49, 50, 51, 52, 53] (by decide +kernel) (by decide +kernel)
set_option maxRecDepth 20000 in
theorem gX5_part_X5_freeRhyme : GoodIn wsX5_part (wsV RX5 92 RX5 yX5_freeRhyme wsX5_freeRhyme) := goodIn_app (goodIn_of _ (by decide +kernel)) ggX5_part_X5_freeRhyme
theorem dX5_part_0 : decode cX5_part 0 = .ok (.iload_n 1, 1) := by decide +kernel
theorem dX5_part_1 : decode cX5_part 1 = .ok (.invokestatic 77, 3) := by decide +kernel
theorem dX5_part_4 : decode cX5_part 4 = .ok (.ifCond .ne 5, 3) := by decide +kernel
theorem dX5_part_7 : decode cX5_part 7 = .ok (.iconst (-1), 1) := by decide +kernel
theorem dX5_part_8 : decode cX5_part 8 = .ok (.ireturn, 1) := by decide +kernel
theorem dX5_part_9 : decode cX5_part 9 = .ok (.aload_n 0, 1) := by decide +kernel
theorem dX5_part_10 : decode cX5_part 10 = .ok (.iload_n 1, 1) := by decide +kernel
theorem dX5_part_11 : decode cX5_part 11 = .ok (.invokevirtual 85, 3) := by decide +kernel
theorem dX5_part_14 : decode cX5_part 14 = .ok (.invokestatic 89, 3) := by decide +kernel
theorem dX5_part_17 : decode cX5_part 17 = .ok (.istore_n 2, 1) := by decide +kernel
theorem dX5_part_18 : decode cX5_part 18 = .ok (.aload_n 0, 1) := by decide +kernel
theorem dX5_part_19 : decode cX5_part 19 = .ok (.getfield 16, 3) := by decide +kernel
theorem dX5_part_22 : decode cX5_part 22 = .ok (.iload_n 1, 1) := by decide +kernel
theorem dX5_part_23 : decode cX5_part 23 = .ok (.aload_n 0, 1) := by decide +kernel
theorem dX5_part_24 : decode cX5_part 24 = .ok (.iload_n 1, 1) := by decide +kernel
theorem dX5_part_25 : decode cX5_part 25 = .ok (.invokevirtual 92, 3) := by decide +kernel
theorem dX5_part_28 : decode cX5_part 28 = .ok (.iastore, 1) := by decide +kernel
theorem dX5_part_29 : decode cX5_part 29 = .ok (.iload_n 2, 1) := by decide +kernel
theorem dX5_part_30 : decode cX5_part 30 = .ok (.ireturn, 1) := by decide +kernel
set_option maxRecDepth 20000 in
theorem ggX5_speaker_X5_isSpeaker : GoodIn wsX5_speaker wsX5_isSpeaker := goodIn_r _ [8, 9, 10, 11, 7, 12] (by decide +kernel) (by decide +kernel)
set_option maxRecDepth 20000 in
theorem gX5_speaker_X5_isSpeaker : GoodIn wsX5_speaker (va_wsS RX5 95 yX5_isSpeaker wsX5_isSpeaker) := goodIn_app (goodIn_of _ (by decide +kernel)) ggX5_speaker_X5_isSpeaker
set_option maxRecDepth 20000 in
theorem ggX5_speaker_X5_in : GoodIn wsX5_speaker wsX5_in := goodIn_r _ [12] (by decide +kernel) (by decide +kernel)
set_option maxRecDepth 20000 in
theorem gX5_speaker_X5_in : GoodIn wsX5_speaker (va_wsS RX5 71 yX5_in wsX5_in) := goodIn_app (goodIn_of _ (by decide +kernel)) ggX5_speaker_X5_in
theorem dX5_speaker_0 : decode cX5_speaker 0 = .ok (.iload_n 1, 1) := by decide +kernel
theorem dX5_speaker_1 : decode cX5_speaker 1 = .ok (.invokestatic 95, 3) := by decide +kernel
theorem dX5_speaker_4 : decode cX5_speaker 4 = .ok (.ifCond .ne 5, 3) := by decide +kernel
theorem dX5_speaker_7 : decode cX5_speaker 7 = .ok (.iconst (-1), 1) := by decide +kernel
theorem dX5_speaker_8 : decode cX5_speaker 8 = .ok (.ireturn, 1) := by decide +kernel
theorem dX5_speaker_9 : decode cX5_speaker 9 = .ok (.iload_n 2, 1) := by decide +kernel
theorem dX5_speaker_10 : decode cX5_speaker 10 = .ok (.i2l, 1) := by decide +kernel
theorem dX5_speaker_11 : decode cX5_speaker 11 = .ok (.lconst 0, 1) := by decide +kernel
theorem dX5_speaker_12 : decode cX5_speaker 12 = .ok (.ldc2_w 98, 3) := by decide +kernel
theorem dX5_speaker_15 : decode cX5_speaker 15 = .ok (.invokestatic 71, 3) := by decide +kernel
theorem dX5_speaker_18 : decode cX5_speaker 18 = .ok (.ifCond .eq 15, 3) := by decide +kernel
theorem dX5_speaker_21 : decode cX5_speaker 21 = .ok (.iload_n 3, 1) := by decide +kernel
theorem dX5_speaker_22 : decode cX5_speaker 22 = .ok (.i2l, 1) := by decide +kernel
theorem dX5_speaker_23 : decode cX5_speaker 23 = .ok (.lconst 0, 1) := by decide +kernel
theorem dX5_speaker_24 : decode cX5_speaker 24 = .ok (.ldc2_w 100, 3) := by decide +kernel
theorem dX5_speaker_27 : decode cX5_speaker 27 = .ok (.invokestatic 71, 3) := by decide +kernel
theorem dX5_speaker_30 : decode cX5_speaker 30 = .ok (.ifCond .ne 6, 3) := by decide +kernel
theorem dX5_speaker_33 : decode cX5_speaker 33 = .ok (.bipush (-2), 2) := by decide +kernel
theorem dX5_speaker_35 : decode cX5_speaker 35 = .ok (.ireturn, 1) := by decide +kernel
theorem dX5_speaker_36 : decode cX5_speaker 36 = .ok (.aload_n 0, 1) := by decide +kernel
theorem dX5_speaker_37 : decode cX5_speaker 37 = .ok (.getfield 19, 3) := by decide +kernel
theorem dX5_speaker_40 : decode cX5_speaker 40 = .ok (.iload_n 1, 1) := by decide +kernel
theorem dX5_speaker_41 : decode cX5_speaker 41 = .ok (.iaload, 1) := by decide +kernel
theorem dX5_speaker_42 : decode cX5_speaker 42 = .ok (.istore 4, 2) := by decide +kernel
theorem dX5_speaker_44 : decode cX5_speaker 44 = .ok (.aload_n 0, 1) := by decide +kernel
theorem dX5_speaker_45 : decode cX5_speaker 45 = .ok (.getfield 19, 3) := by decide +kernel
theorem dX5_speaker_48 : decode cX5_speaker 48 = .ok (.iload_n 1, 1) := by decide +kernel
theorem dX5_speaker_49 : decode cX5_speaker 49 = .ok (.iload_n 2, 1) := by decide +kernel
theorem dX5_speaker_50 : decode cX5_speaker 50 = .ok (.iastore, 1) := by decide +kernel
theorem dX5_speaker_51 : decode cX5_speaker 51 = .ok (.aload_n 0, 1) := by decide +kernel
theorem dX5_speaker_52 : decode cX5_speaker 52 = .ok (.getfield 22, 3) := by decide +kernel
theorem dX5_speaker_55 : decode cX5_speaker 55 = .ok (.iload_n 1, 1) := by decide +kernel
theorem dX5_speaker_56 : decode cX5_speaker 56 = .ok (.iload_n 3, 1) := by decide +kernel
theorem dX5_speaker_57 : decode cX5_speaker 57 = .ok (.iastore, 1) := by decide +kernel
theorem dX5_speaker_58 : decode cX5_speaker 58 = .ok (.iload 4, 2) := by decide +kernel
theorem dX5_speaker_60 : decode cX5_speaker 60 = .ok (.ireturn, 1) := by decide +kernel
set_option maxRecDepth 20000 in
theorem ggX5_say_X5_in : GoodIn wsX5_say wsX5_in := goodIn_r _ [8] (by decide +kernel) (by decide +kernel)
set_option maxRecDepth 20000 in
theorem gX5_say_X5_in : GoodIn wsX5_say (va_wsS RX5 71 yX5_in wsX5_in) := goodIn_app (goodIn_of _ (by decide +kernel)) ggX5_say_X5_in
theorem dX5_say_0 : decode cX5_say 0 = .ok (.iload_n 1, 1) := by decide +kernel
theorem dX5_say_1 : decode cX5_say 1 = .ok (.i2l, 1) := by decide +kernel
theorem dX5_say_2 : decode cX5_say 2 = .ok (.ldc2_w 102, 3) := by decide +kernel
theorem dX5_say_5 : decode cX5_say 5 = .ok (.ldc2_w 104, 3) := by decide +kernel
theorem dX5_say_8 : decode cX5_say 8 = .ok (.invokestatic 71, 3) := by decide +kernel
theorem dX5_say_11 : decode cX5_say 11 = .ok (.ifCond .ne 6, 3) := by decide +kernel
theorem dX5_say_14 : decode cX5_say 14 = .ok (.bipush (-2), 2) := by decide +kernel
theorem dX5_say_16 : decode cX5_say 16 = .ok (.ireturn, 1) := by decide +kernel
theorem dX5_say_17 : decode cX5_say 17 = .ok (.aload_n 0, 1) := by decide +kernel
theorem dX5_say_18 : decode cX5_say 18 = .ok (.getfield 106, 3) := by decide +kernel
theorem dX5_say_21 : decode cX5_say 21 = .ok (.bipush 60, 2) := by decide +kernel
theorem dX5_say_23 : decode cX5_say 23 = .ok (.if_icmp .ne 6, 3) := by decide +kernel
theorem dX5_say_26 : decode cX5_say 26 = .ok (.bipush (-4), 2) := by decide +kernel
theorem dX5_say_28 : decode cX5_say 28 = .ok (.ireturn, 1) := by decide +kernel
theorem dX5_say_29 : decode cX5_say 29 = .ok (.aload_n 0, 1) := by decide +kernel
theorem dX5_say_30 : decode cX5_say 30 = .ok (.getfield 37, 3) := by decide +kernel
theorem dX5_say_33 : decode cX5_say 33 = .ok (.aload_n 0, 1) := by decide +kernel
theorem dX5_say_34 : decode cX5_say 34 = .ok (.getfield 106, 3) := by decide +kernel
theorem dX5_say_37 : decode cX5_say 37 = .ok (.iload_n 1, 1) := by decide +kernel
theorem dX5_say_38 : decode cX5_say 38 = .ok (.iastore, 1) := by decide +kernel
theorem dX5_say_39 : decode cX5_say 39 = .ok (.aload_n 0, 1) := by decide +kernel
theorem dX5_say_40 : decode cX5_say 40 = .ok (.dup, 1) := by decide +kernel
theorem dX5_say_41 : decode cX5_say 41 = .ok (.getfield 106, 3) := by decide +kernel
theorem dX5_say_44 : decode cX5_say 44 = .ok (.iconst 1, 1) := by decide +kernel
theorem dX5_say_45 : decode cX5_say 45 = .ok (.iadd, 1) := by decide +kernel
theorem dX5_say_46 : decode cX5_say 46 = .ok (.putfield 106, 3) := by decide +kernel
theorem dX5_say_49 : decode cX5_say 49 = .ok (.aload_n 0, 1) := by decide +kernel
theorem dX5_say_50 : decode cX5_say 50 = .ok (.getfield 106, 3) := by decide +kernel
theorem dX5_say_53 : decode cX5_say 53 = .ok (.ireturn, 1) := by decide +kernel
theorem dX5_wipe_0 : decode cX5_wipe 0 = .ok (.aload_n 0, 1) := by decide +kernel
theorem dX5_wipe_1 : decode cX5_wipe 1 = .ok (.getfield 106, 3) := by decide +kernel
theorem dX5_wipe_4 : decode cX5_wipe 4 = .ok (.istore_n 1, 1) := by decide +kernel
theorem dX5_wipe_5 : decode cX5_wipe 5 = .ok (.aload_n 0, 1) := by decide +kernel
theorem dX5_wipe_6 : decode cX5_wipe 6 = .ok (.iconst 0, 1) := by decide +kernel
theorem dX5_wipe_7 : decode cX5_wipe 7 = .ok (.putfield 106, 3) := by decide +kernel
theorem dX5_wipe_10 : decode cX5_wipe 10 = .ok (.iload_n 1, 1) := by decide +kernel
theorem dX5_wipe_11 : decode cX5_wipe 11 = .ok (.ireturn, 1) := by decide +kernel
theorem dX5_close_0 : decode cX5_close 0 = .ok (.aload_n 0, 1) := by decide +kernel
theorem dX5_close_1 : decode cX5_close 1 = .ok (.dup, 1) := by decide +kernel
theorem dX5_close_2 : decode cX5_close 2 = .ok (.getfield 110, 3) := by decide +kernel
theorem dX5_close_5 : decode cX5_close 5 = .ok (.iconst 1, 1) := by decide +kernel
theorem dX5_close_6 : decode cX5_close 6 = .ok (.iadd, 1) := by decide +kernel
theorem dX5_close_7 : decode cX5_close 7 = .ok (.putfield 110, 3) := by decide +kernel
theorem dX5_close_10 : decode cX5_close 10 = .ok (.iconst 0, 1) := by decide +kernel
theorem dX5_close_11 : decode cX5_close 11 = .ok (.ireturn, 1) := by decide +kernel
set_option maxRecDepth 20000 in
theorem ggX5_begin_X5_in : GoodIn wsX5_begin wsX5_in := goodIn_r _ [11] (by decide +kernel) (by decide +kernel)
set_option maxRecDepth 20000 in
theorem gX5_begin_X5_in : GoodIn wsX5_begin (va_wsS RX5 71 yX5_in wsX5_in) := goodIn_app (goodIn_of _ (by decide +kernel)) ggX5_begin_X5_in
set_option maxRecDepth 20000 in
theorem ggX5_begin_X5_close : GoodIn wsX5_begin wsX5_close := goodIn_r _ [15, 4, 16, 17, 18, 19, 20, 21, 22, 23, 24, 25, 26, 27, 28, 29, 30, 31, 32, 33, 34, 35, 36, 37, 38, 39, 40, 41, 42, 43, 44, 45, 46, 47, 48] (by decide +kernel) (by decide +kernel)
set_option maxRecDepth 20000 in
theorem gX5_begin_X5_close : GoodIn wsX5_begin (wsV RX5 117 RX5 yX5_close wsX5_close) := goodIn_app (goodIn_of _ (by decide +kernel)) ggX5_begin_X5_close
theorem dX5_begin_0 : decode cX5_begin 0 = .ok (.iload_n 1, 1) := by decide +kernel
theorem dX5_begin_1 : decode cX5_begin 1 = .ok (.i2l, 1) := by decide +kernel
theorem dX5_begin_2 : decode cX5_begin 2 = .ok (.ldc2_w 113, 3) := by decide +kernel
theorem dX5_begin_5 : decode cX5_begin 5 = .ok (.ldc2_w 115, 3) := by decide +kernel
theorem dX5_begin_8 : decode cX5_begin 8 = .ok (.invokestatic 71, 3) := by decide +kernel
theorem dX5_begin_11 : decode cX5_begin 11 = .ok (.istore_n 2, 1) := by decide +kernel
theorem dX5_begin_12 : decode cX5_begin 12 = .ok (.aload_n 0, 1) := by decide +kernel
theorem dX5_begin_13 : decode cX5_begin 13 = .ok (.getfield 40, 3) := by decide +kernel
theorem dX5_begin_16 : decode cX5_begin 16 = .ok (.aload_n 0, 1) := by decide +kernel
theorem dX5_begin_17 : decode cX5_begin 17 = .ok (.getfield 110, 3) := by decide +kernel
theorem dX5_begin_20 : decode cX5_begin 20 = .ok (.iconst 4, 1) := by decide +kernel
theorem dX5_begin_21 : decode cX5_begin 21 = .ok (.iastore, 1) := by decide +kernel
theorem dX5_begin_22 : decode cX5_begin 22 = .ok (.aload_n 0, 1) := by decide +kernel
theorem dX5_begin_23 : decode cX5_begin 23 = .ok (.getfield 43, 3) := by decide +kernel
theorem dX5_begin_26 : decode cX5_begin 26 = .ok (.aload_n 0, 1) := by decide +kernel
theorem dX5_begin_27 : decode cX5_begin 27 = .ok (.getfield 110, 3) := by decide +kernel
theorem dX5_begin_30 : decode cX5_begin 30 = .ok (.iload_n 2, 1) := by decide +kernel
theorem dX5_begin_31 : decode cX5_begin 31 = .ok (.ifCond .eq 10, 3) := by decide +kernel
theorem dX5_begin_34 : decode cX5_begin 34 = .ok (.iload_n 1, 1) := by decide +kernel
theorem dX5_begin_35 : decode cX5_begin 35 = .ok (.bipush 65, 2) := by decide +kernel
theorem dX5_begin_37 : decode cX5_begin 37 = .ok (.isub, 1) := by decide +kernel
theorem dX5_begin_38 : decode cX5_begin 38 = .ok (.goto 4, 3) := by decide +kernel
theorem dX5_begin_41 : decode cX5_begin 41 = .ok (.iconst 0, 1) := by decide +kernel
theorem dX5_begin_42 : decode cX5_begin 42 = .ok (.iastore, 1) := by decide +kernel
theorem dX5_begin_43 : decode cX5_begin 43 = .ok (.aload_n 0, 1) := by decide +kernel
theorem dX5_begin_44 : decode cX5_begin 44 = .ok (.getfield 46, 3) := by decide +kernel
theorem dX5_begin_47 : decode cX5_begin 47 = .ok (.aload_n 0, 1) := by decide +kernel
theorem dX5_begin_48 : decode cX5_begin 48 = .ok (.getfield 110, 3) := by decide +kernel
theorem dX5_begin_51 : decode cX5_begin 51 = .ok (.iconst 0, 1) := by decide +kernel
theorem dX5_begin_52 : decode cX5_begin 52 = .ok (.iastore, 1) := by decide +kernel
theorem dX5_begin_53 : decode cX5_begin 53 = .ok (.aload_n 0, 1) := by decide +kernel
theorem dX5_begin_54 : decode cX5_begin 54 = .ok (.getfield 49, 3) := by decide +kernel
theorem dX5_begin_57 : decode cX5_begin 57 = .ok (.aload_n 0, 1) := by decide +kernel
theorem dX5_begin_58 : decode cX5_begin 58 = .ok (.getfield 110, 3) := by decide +kernel
theorem dX5_begin_61 : decode cX5_begin 61 = .ok (.iconst 0, 1) := by decide +kernel
theorem dX5_begin_62 : decode cX5_begin 62 = .ok (.iastore, 1) := by decide +kernel
theorem dX5_begin_63 : decode cX5_begin 63 = .ok (.iload_n 2, 1) := by decide +kernel
theorem dX5_begin_64 : decode cX5_begin 64 = .ok (.ifCond .eq 7, 3) := by decide +kernel
theorem dX5_begin_67 : decode cX5_begin 67 = .ok (.iconst 1, 1) := by decide +kernel
theorem dX5_begin_68 : decode cX5_begin 68 = .ok (.goto 18, 3) := by decide +kernel
theorem dX5_begin_71 : decode cX5_begin 71 = .ok (.iload_n 1, 1) := by decide +kernel
theorem dX5_begin_72 : decode cX5_begin 72 = .ok (.bipush 46, 2) := by decide +kernel
theorem dX5_begin_74 : decode cX5_begin 74 = .ok (.if_icmp .ne 10, 3) := by decide +kernel
theorem dX5_begin_77 : decode cX5_begin 77 = .ok (.aload_n 0, 1) := by decide +kernel
theorem dX5_begin_78 : decode cX5_begin 78 = .ok (.invokevirtual 117, 3) := by decide +kernel
theorem dX5_begin_81 : decode cX5_begin 81 = .ok (.goto 5, 3) := by decide +kernel
theorem dX5_begin_84 : decode cX5_begin 84 = .ok (.bipush (-6), 2) := by decide +kernel
theorem dX5_begin_86 : decode cX5_begin 86 = .ok (.ireturn, 1) := by decide +kernel
set_option maxRecDepth 20000 in
theorem ggX5_deed_X5_in : GoodIn wsX5_deed wsX5_in := goodIn_r _ [9] (by decide +kernel) (by decide +kernel)
set_option maxRecDepth 20000 in
theorem gX5_deed_X5_in : GoodIn wsX5_deed (va_wsS RX5 71 yX5_in wsX5_in) := goodIn_app (goodIn_of _ (by decide +kernel)) ggX5_deed_X5_in
set_option maxRecDepth 20000 in
theorem ggX5_deed_X5_close : GoodIn wsX5_deed wsX5_close := goodIn_r _ [13, 4, 14, 15, 16, 17, 18, 19, 20, 21, 22, 23, 24, 25, 26, 27, 28, 29, 30, 31, 32, 33, 34, 35, 36, 37, 38, 39, 40, 41, 42, 43, 44, 45, 46] (by decide +kernel) (by decide +kernel)
set_option maxRecDepth 20000 in
theorem gX5_deed_X5_close : GoodIn wsX5_deed (wsV RX5 117 RX5 yX5_close wsX5_close) := goodIn_app (goodIn_of _ (by decide +kernel)) ggX5_deed_X5_close
theorem dX5_deed_0 : decode cX5_deed 0 = .ok (.iload_n 1, 1) := by decide +kernel
theorem dX5_deed_1 : decode cX5_deed 1 = .ok (.i2l, 1) := by decide +kernel
theorem dX5_deed_2 : decode cX5_deed 2 = .ok (.ldc2_w 121, 3) := by decide +kernel
theorem dX5_deed_5 : decode cX5_deed 5 = .ok (.ldc2_w 123, 3) := by decide +kernel
theorem dX5_deed_8 : decode cX5_deed 8 = .ok (.invokestatic 71, 3) := by decide +kernel
theorem dX5_deed_11 : decode cX5_deed 11 = .ok (.istore_n 2, 1) := by decide +kernel
theorem dX5_deed_12 : decode cX5_deed 12 = .ok (.aload_n 0, 1) := by decide +kernel
theorem dX5_deed_13 : decode cX5_deed 13 = .ok (.getfield 40, 3) := by decide +kernel
theorem dX5_deed_16 : decode cX5_deed 16 = .ok (.aload_n 0, 1) := by decide +kernel
theorem dX5_deed_17 : decode cX5_deed 17 = .ok (.getfield 110, 3) := by decide +kernel
theorem dX5_deed_20 : decode cX5_deed 20 = .ok (.iload_n 2, 1) := by decide +kernel
theorem dX5_deed_21 : decode cX5_deed 21 = .ok (.ifCond .eq 7, 3) := by decide +kernel
theorem dX5_deed_24 : decode cX5_deed 24 = .ok (.iconst 2, 1) := by decide +kernel
theorem dX5_deed_25 : decode cX5_deed 25 = .ok (.goto 24, 3) := by decide +kernel
theorem dX5_deed_28 : decode cX5_deed 28 = .ok (.iload_n 1, 1) := by decide +kernel
theorem dX5_deed_29 : decode cX5_deed 29 = .ok (.bipush 43, 2) := by decide +kernel
theorem dX5_deed_31 : decode cX5_deed 31 = .ok (.if_icmp .ne 7, 3) := by decide +kernel
theorem dX5_deed_34 : decode cX5_deed 34 = .ok (.iconst 0, 1) := by decide +kernel
theorem dX5_deed_35 : decode cX5_deed 35 = .ok (.goto 14, 3) := by decide +kernel
theorem dX5_deed_38 : decode cX5_deed 38 = .ok (.iload_n 1, 1) := by decide +kernel
theorem dX5_deed_39 : decode cX5_deed 39 = .ok (.bipush 45, 2) := by decide +kernel
theorem dX5_deed_41 : decode cX5_deed 41 = .ok (.if_icmp .ne 7, 3) := by decide +kernel
theorem dX5_deed_44 : decode cX5_deed 44 = .ok (.iconst 1, 1) := by decide +kernel
theorem dX5_deed_45 : decode cX5_deed 45 = .ok (.goto 4, 3) := by decide +kernel
theorem dX5_deed_48 : decode cX5_deed 48 = .ok (.iconst 3, 1) := by decide +kernel
theorem dX5_deed_49 : decode cX5_deed 49 = .ok (.iastore, 1) := by decide +kernel
theorem dX5_deed_50 : decode cX5_deed 50 = .ok (.aload_n 0, 1) := by decide +kernel
theorem dX5_deed_51 : decode cX5_deed 51 = .ok (.getfield 46, 3) := by decide +kernel
theorem dX5_deed_54 : decode cX5_deed 54 = .ok (.aload_n 0, 1) := by decide +kernel
theorem dX5_deed_55 : decode cX5_deed 55 = .ok (.getfield 110, 3) := by decide +kernel
theorem dX5_deed_58 : decode cX5_deed 58 = .ok (.iload_n 2, 1) := by decide +kernel
theorem dX5_deed_59 : decode cX5_deed 59 = .ok (.ifCond .eq 10, 3) := by decide +kernel
theorem dX5_deed_62 : decode cX5_deed 62 = .ok (.iload_n 1, 1) := by decide +kernel
theorem dX5_deed_63 : decode cX5_deed 63 = .ok (.bipush 97, 2) := by decide +kernel
theorem dX5_deed_65 : decode cX5_deed 65 = .ok (.isub, 1) := by decide +kernel
theorem dX5_deed_66 : decode cX5_deed 66 = .ok (.goto 4, 3) := by decide +kernel
theorem dX5_deed_69 : decode cX5_deed 69 = .ok (.iconst 0, 1) := by decide +kernel
theorem dX5_deed_70 : decode cX5_deed 70 = .ok (.iastore, 1) := by decide +kernel
theorem dX5_deed_71 : decode cX5_deed 71 = .ok (.iload_n 2, 1) := by decide +kernel
theorem dX5_deed_72 : decode cX5_deed 72 = .ok (.ifCond .eq 10, 3) := by decide +kernel
theorem dX5_deed_75 : decode cX5_deed 75 = .ok (.aload_n 0, 1) := by decide +kernel
theorem dX5_deed_76 : decode cX5_deed 76 = .ok (.invokevirtual 117, 3) := by decide +kernel
theorem dX5_deed_79 : decode cX5_deed 79 = .ok (.goto 31, 3) := by decide +kernel
theorem dX5_deed_82 : decode cX5_deed 82 = .ok (.iload_n 1, 1) := by decide +kernel
theorem dX5_deed_83 : decode cX5_deed 83 = .ok (.bipush 43, 2) := by decide +kernel
theorem dX5_deed_85 : decode cX5_deed 85 = .ok (.if_icmp .eq 9, 3) := by decide +kernel
theorem dX5_deed_88 : decode cX5_deed 88 = .ok (.iload_n 1, 1) := by decide +kernel
theorem dX5_deed_89 : decode cX5_deed 89 = .ok (.bipush 45, 2) := by decide +kernel
theorem dX5_deed_91 : decode cX5_deed 91 = .ok (.if_icmp .ne 7, 3) := by decide +kernel
theorem dX5_deed_94 : decode cX5_deed 94 = .ok (.iconst 2, 1) := by decide +kernel
theorem dX5_deed_95 : decode cX5_deed 95 = .ok (.goto 15, 3) := by decide +kernel
theorem dX5_deed_98 : decode cX5_deed 98 = .ok (.iload_n 1, 1) := by decide +kernel
theorem dX5_deed_99 : decode cX5_deed 99 = .ok (.bipush 62, 2) := by decide +kernel
theorem dX5_deed_101 : decode cX5_deed 101 = .ok (.if_icmp .ne 7, 3) := by decide +kernel
theorem dX5_deed_104 : decode cX5_deed 104 = .ok (.iconst 3, 1) := by decide +kernel
theorem dX5_deed_105 : decode cX5_deed 105 = .ok (.goto 5, 3) := by decide +kernel
theorem dX5_deed_108 : decode cX5_deed 108 = .ok (.bipush (-6), 2) := by decide +kernel
theorem dX5_deed_110 : decode cX5_deed 110 = .ok (.ireturn, 1) := by decide +kernel
set_option maxRecDepth 20000 in
theorem ggX5_readOn_X5_begin : GoodIn wsX5_readOn wsX5_begin := goodIn_r _ [12, 3, 4, 13, 2, 14, 5, 1, 15, 16, 11, 17, 18, 19, 20, 21, 26, 27, 28, 29, 30, 31, 32, 33, 34, 35, 36, 37, 38, 39, 40, 41, 42, 43, 44, 45, 46, 47, 48, 49, 50, 51, 52, 53, 54, 55, 56, 57, 58] (by decide +kernel) (by decide +kernel)
set_option maxRecDepth 20000 in
theorem gX5_readOn_X5_begin : GoodIn wsX5_readOn (wsV RX5 125 RX5 yX5_begin wsX5_begin) := goodIn_app (goodIn_of _ (by decide +kernel)) ggX5_readOn_X5_begin
set_option maxRecDepth 20000 in
theorem ggX5_readOn_X5_deed : GoodIn wsX5_readOn wsX5_deed := goodIn_r _ [25, 6, 7, 13, 2, 5, 15, 16, 11, 17, 18, 19, 20, 21, 26, 27, 28, 29, 30, 31, 32, 33, 34, 35, 36, 37, 38, 39, 40, 41, 42, 43, 44, 45, 46, 47, 48, 49, 50, 51, 52, 53, 54, 55, 56, 57, 58] (by decide +kernel) (by decide +kernel)
set_option maxRecDepth 20000 in
theorem gX5_readOn_X5_deed : GoodIn wsX5_readOn (wsV RX5 128 RX5 yX5_deed wsX5_deed) := goodIn_app (goodIn_of _ (by decide +kernel)) ggX5_readOn_X5_deed
set_option maxRecDepth 20000 in
theorem ggX5_readOn_X5_in : GoodIn wsX5_readOn wsX5_in := goodIn_r _ [17] (by decide +kernel) (by decide +kernel)
set_option maxRecDepth 20000 in
theorem gX5_readOn_X5_in : GoodIn wsX5_readOn (va_wsS RX5 71 yX5_in wsX5_in) := goodIn_app (goodIn_of _ (by decide +kernel)) ggX5_readOn_X5_in
set_option maxRecDepth 20000 in
theorem ggX5_readOn_X5_close : GoodIn wsX5_readOn wsX5_close := goodIn_r _ [21, 2, 26, 27, 28, 29, 30, 31, 32, 33, 34, 35, 36, 37, 38, 39, 40, 41, 42, 43, 44, 45, 46, 47, 48, 49, 50, 51, 52, 53, 54, 55, 56, 57, 58] (by decide +kernel) (by decide +kernel)
set_option maxRecDepth 20000 in
theorem gX5_readOn_X5_close : GoodIn wsX5_readOn (wsV RX5 117 RX5 yX5_close wsX5_close) := goodIn_app (goodIn_of _ (by decide +kernel)) ggX5_readOn_X5_close
theorem dX5_readOn_0 : decode cX5_readOn 0 = .ok (.iload_n 1, 1) := by decide +kernel
theorem dX5_readOn_1 : decode cX5_readOn 1 = .ok (.ifCond .ne 9, 3) := by decide +kernel
theorem dX5_readOn_4 : decode cX5_readOn 4 = .ok (.aload_n 0, 1) := by decide +kernel
theorem dX5_readOn_5 : decode cX5_readOn 5 = .ok (.iload_n 2, 1) := by decide +kernel
theorem dX5_readOn_6 : decode cX5_readOn 6 = .ok (.invokevirtual 125, 3) := by decide +kernel
theorem dX5_readOn_9 : decode cX5_readOn 9 = .ok (.ireturn, 1) := by decide +kernel
theorem dX5_readOn_10 : decode cX5_readOn 10 = .ok (.iload_n 1, 1) := by decide +kernel
theorem dX5_readOn_11 : decode cX5_readOn 11 = .ok (.iconst 1, 1) := by decide +kernel
theorem dX5_readOn_12 : decode cX5_readOn 12 = .ok (.if_icmp .ne 9, 3) := by decide +kernel
theorem dX5_readOn_15 : decode cX5_readOn 15 = .ok (.aload_n 0, 1) := by decide +kernel
theorem dX5_readOn_16 : decode cX5_readOn 16 = .ok (.iload_n 2, 1) := by decide +kernel
theorem dX5_readOn_17 : decode cX5_readOn 17 = .ok (.invokevirtual 128, 3) := by decide +kernel
theorem dX5_readOn_20 : decode cX5_readOn 20 = .ok (.ireturn, 1) := by decide +kernel
theorem dX5_readOn_21 : decode cX5_readOn 21 = .ok (.iload_n 1, 1) := by decide +kernel
theorem dX5_readOn_22 : decode cX5_readOn 22 = .ok (.iconst 3, 1) := by decide +kernel
theorem dX5_readOn_23 : decode cX5_readOn 23 = .ok (.if_icmp .ne 37, 3) := by decide +kernel
theorem dX5_readOn_26 : decode cX5_readOn 26 = .ok (.aload_n 0, 1) := by decide +kernel
theorem dX5_readOn_27 : decode cX5_readOn 27 = .ok (.getfield 49, 3) := by decide +kernel
theorem dX5_readOn_30 : decode cX5_readOn 30 = .ok (.aload_n 0, 1) := by decide +kernel
theorem dX5_readOn_31 : decode cX5_readOn 31 = .ok (.getfield 110, 3) := by decide +kernel
theorem dX5_readOn_34 : decode cX5_readOn 34 = .ok (.iload_n 2, 1) := by decide +kernel
theorem dX5_readOn_35 : decode cX5_readOn 35 = .ok (.bipush 65, 2) := by decide +kernel
theorem dX5_readOn_37 : decode cX5_readOn 37 = .ok (.isub, 1) := by decide +kernel
theorem dX5_readOn_38 : decode cX5_readOn 38 = .ok (.iastore, 1) := by decide +kernel
theorem dX5_readOn_39 : decode cX5_readOn 39 = .ok (.iload_n 2, 1) := by decide +kernel
theorem dX5_readOn_40 : decode cX5_readOn 40 = .ok (.i2l, 1) := by decide +kernel
theorem dX5_readOn_41 : decode cX5_readOn 41 = .ok (.ldc2_w 113, 3) := by decide +kernel
theorem dX5_readOn_44 : decode cX5_readOn 44 = .ok (.ldc2_w 115, 3) := by decide +kernel
theorem dX5_readOn_47 : decode cX5_readOn 47 = .ok (.invokestatic 71, 3) := by decide +kernel
theorem dX5_readOn_50 : decode cX5_readOn 50 = .ok (.ifCond .eq 7, 3) := by decide +kernel
theorem dX5_readOn_53 : decode cX5_readOn 53 = .ok (.iconst 2, 1) := by decide +kernel
theorem dX5_readOn_54 : decode cX5_readOn 54 = .ok (.goto 5, 3) := by decide +kernel
theorem dX5_readOn_57 : decode cX5_readOn 57 = .ok (.bipush (-6), 2) := by decide +kernel
theorem dX5_readOn_59 : decode cX5_readOn 59 = .ok (.ireturn, 1) := by decide +kernel
theorem dX5_readOn_60 : decode cX5_readOn 60 = .ok (.aload_n 0, 1) := by decide +kernel
theorem dX5_readOn_61 : decode cX5_readOn 61 = .ok (.getfield 46, 3) := by decide +kernel
theorem dX5_readOn_64 : decode cX5_readOn 64 = .ok (.aload_n 0, 1) := by decide +kernel
theorem dX5_readOn_65 : decode cX5_readOn 65 = .ok (.getfield 110, 3) := by decide +kernel
theorem dX5_readOn_68 : decode cX5_readOn 68 = .ok (.iload_n 2, 1) := by decide +kernel
theorem dX5_readOn_69 : decode cX5_readOn 69 = .ok (.bipush 97, 2) := by decide +kernel
theorem dX5_readOn_71 : decode cX5_readOn 71 = .ok (.isub, 1) := by decide +kernel
theorem dX5_readOn_72 : decode cX5_readOn 72 = .ok (.iastore, 1) := by decide +kernel
theorem dX5_readOn_73 : decode cX5_readOn 73 = .ok (.iload_n 2, 1) := by decide +kernel
theorem dX5_readOn_74 : decode cX5_readOn 74 = .ok (.i2l, 1) := by decide +kernel
theorem dX5_readOn_75 : decode cX5_readOn 75 = .ok (.ldc2_w 121, 3) := by decide +kernel
theorem dX5_readOn_78 : decode cX5_readOn 78 = .ok (.ldc2_w 123, 3) := by decide +kernel
theorem dX5_readOn_81 : decode cX5_readOn 81 = .ok (.invokestatic 71, 3) := by decide +kernel
theorem dX5_readOn_84 : decode cX5_readOn 84 = .ok (.ifCond .eq 10, 3) := by decide +kernel
theorem dX5_readOn_87 : decode cX5_readOn 87 = .ok (.aload_n 0, 1) := by decide +kernel
theorem dX5_readOn_88 : decode cX5_readOn 88 = .ok (.invokevirtual 117, 3) := by decide +kernel
theorem dX5_readOn_91 : decode cX5_readOn 91 = .ok (.goto 5, 3) := by decide +kernel
theorem dX5_readOn_94 : decode cX5_readOn 94 = .ok (.bipush (-6), 2) := by decide +kernel
theorem dX5_readOn_96 : decode cX5_readOn 96 = .ok (.ireturn, 1) := by decide +kernel
set_option maxRecDepth 20000 in
theorem ggX5_fault_X5_readOn : GoodIn wsX5_fault wsX5_readOn := goodIn_r _ [8, 9, 1, 10, 11, 12, 13, 14, 15, 16, 17, 7, 18, 19, 20, 21, 22, 23, 24, 25, 26, 27, 28, 29, 30, 31, 32, 33, 34, 35, 36, 37, 38, 39, 40, 41, 42, 43, 44, 45, 46, 47, 48, 49, 50, 51, 52, 53, 54, 55, 56, 57, 58, 59, 60, 61, 62, 63, 64] (by decide +kernel) (by decide +kernel)
set_option maxRecDepth 20000 in
theorem gX5_fault_X5_readOn : GoodIn wsX5_fault (wsV RX5 131 RX5 yX5_readOn wsX5_readOn) := goodIn_app (goodIn_of _ (by decide +kernel)) ggX5_fault_X5_readOn
theorem dX5_fault_0 : decode cX5_fault 0 = .ok (.aload_n 0, 1) := by decide +kernel
theorem dX5_fault_1 : decode cX5_fault 1 = .ok (.iconst 0, 1) := by decide +kernel
theorem dX5_fault_2 : decode cX5_fault 2 = .ok (.putfield 110, 3) := by decide +kernel
theorem dX5_fault_5 : decode cX5_fault 5 = .ok (.iconst 0, 1) := by decide +kernel
theorem dX5_fault_6 : decode cX5_fault 6 = .ok (.istore_n 1, 1) := by decide +kernel
theorem dX5_fault_7 : decode cX5_fault 7 = .ok (.iconst 0, 1) := by decide +kernel
theorem dX5_fault_8 : decode cX5_fault 8 = .ok (.istore_n 2, 1) := by decide +kernel
theorem dX5_fault_9 : decode cX5_fault 9 = .ok (.iload_n 2, 1) := by decide +kernel
theorem dX5_fault_10 : decode cX5_fault 10 = .ok (.aload_n 0, 1) := by decide +kernel
theorem dX5_fault_11 : decode cX5_fault 11 = .ok (.getfield 106, 3) := by decide +kernel
theorem dX5_fault_14 : decode cX5_fault 14 = .ok (.if_icmp .ge 27, 3) := by decide +kernel
theorem dX5_fault_17 : decode cX5_fault 17 = .ok (.aload_n 0, 1) := by decide +kernel
theorem dX5_fault_18 : decode cX5_fault 18 = .ok (.iload_n 1, 1) := by decide +kernel
theorem dX5_fault_19 : decode cX5_fault 19 = .ok (.aload_n 0, 1) := by decide +kernel
theorem dX5_fault_20 : decode cX5_fault 20 = .ok (.getfield 37, 3) := by decide +kernel
theorem dX5_fault_23 : decode cX5_fault 23 = .ok (.iload_n 2, 1) := by decide +kernel
theorem dX5_fault_24 : decode cX5_fault 24 = .ok (.iaload, 1) := by decide +kernel
theorem dX5_fault_25 : decode cX5_fault 25 = .ok (.invokevirtual 131, 3) := by decide +kernel
theorem dX5_fault_28 : decode cX5_fault 28 = .ok (.istore_n 1, 1) := by decide +kernel
theorem dX5_fault_29 : decode cX5_fault 29 = .ok (.iload_n 1, 1) := by decide +kernel
theorem dX5_fault_30 : decode cX5_fault 30 = .ok (.ifCond .ge 5, 3) := by decide +kernel
theorem dX5_fault_33 : decode cX5_fault 33 = .ok (.iload_n 2, 1) := by decide +kernel
theorem dX5_fault_34 : decode cX5_fault 34 = .ok (.ireturn, 1) := by decide +kernel
theorem dX5_fault_35 : decode cX5_fault 35 = .ok (.iinc 2 1, 3) := by decide +kernel
theorem dX5_fault_38 : decode cX5_fault 38 = .ok (.goto (-29), 3) := by decide +kernel
theorem dX5_fault_41 : decode cX5_fault 41 = .ok (.iload_n 1, 1) := by decide +kernel
theorem dX5_fault_42 : decode cX5_fault 42 = .ok (.ifCond .ne 8, 3) := by decide +kernel
theorem dX5_fault_45 : decode cX5_fault 45 = .ok (.bipush (-6), 2) := by decide +kernel
theorem dX5_fault_47 : decode cX5_fault 47 = .ok (.goto 7, 3) := by decide +kernel
theorem dX5_fault_50 : decode cX5_fault 50 = .ok (.aload_n 0, 1) := by decide +kernel
theorem dX5_fault_51 : decode cX5_fault 51 = .ok (.getfield 106, 3) := by decide +kernel
theorem dX5_fault_54 : decode cX5_fault 54 = .ok (.ireturn, 1) := by decide +kernel
theorem dX5_hasWord_0 : decode cX5_hasWord 0 = .ok (.aload_n 0, 1) := by decide +kernel
theorem dX5_hasWord_1 : decode cX5_hasWord 1 = .ok (.getfield 22, 3) := by decide +kernel
theorem dX5_hasWord_4 : decode cX5_hasWord 4 = .ok (.iload_n 1, 1) := by decide +kernel
theorem dX5_hasWord_5 : decode cX5_hasWord 5 = .ok (.iaload, 1) := by decide +kernel
theorem dX5_hasWord_6 : decode cX5_hasWord 6 = .ok (.iload_n 2, 1) := by decide +kernel
theorem dX5_hasWord_7 : decode cX5_hasWord 7 = .ok (.ishr, 1) := by decide +kernel
theorem dX5_hasWord_8 : decode cX5_hasWord 8 = .ok (.iconst 1, 1) := by decide +kernel
theorem dX5_hasWord_9 : decode cX5_hasWord 9 = .ok (.iand, 1) := by decide +kernel
theorem dX5_hasWord_10 : decode cX5_hasWord 10 = .ok (.iconst 1, 1) := by decide +kernel
theorem dX5_hasWord_11 : decode cX5_hasWord 11 = .ok (.if_icmp .ne 7, 3) := by decide +kernel
theorem dX5_hasWord_14 : decode cX5_hasWord 14 = .ok (.iconst 1, 1) := by decide +kernel
theorem dX5_hasWord_15 : decode cX5_hasWord 15 = .ok (.goto 4, 3) := by decide +kernel
theorem dX5_hasWord_18 : decode cX5_hasWord 18 = .ok (.iconst 0, 1) := by decide +kernel
theorem dX5_hasWord_19 : decode cX5_hasWord 19 = .ok (.ireturn, 1) := by decide +kernel
theorem dX5_placeThen_0 : decode cX5_placeThen 0 = .ok (.aload_n 0, 1) := by decide +kernel
theorem dX5_placeThen_1 : decode cX5_placeThen 1 = .ok (.getfield 135, 3) := by decide +kernel
theorem dX5_placeThen_4 : decode cX5_placeThen 4 = .ok (.tableswitch 81 0 3 #[32, 51, 62, 62], 32) := by decide +kernel
theorem dX5_placeThen_36 : decode cX5_placeThen 36 = .ok (.iload_n 1, 1) := by decide +kernel
theorem dX5_placeThen_37 : decode cX5_placeThen 37 = .ok (.iconst 2, 1) := by decide +kernel
theorem dX5_placeThen_38 : decode cX5_placeThen 38 = .ok (.if_icmp .ne 7, 3) := by decide +kernel
theorem dX5_placeThen_41 : decode cX5_placeThen 41 = .ok (.iconst 0, 1) := by decide +kernel
theorem dX5_placeThen_42 : decode cX5_placeThen 42 = .ok (.goto 12, 3) := by decide +kernel
theorem dX5_placeThen_45 : decode cX5_placeThen 45 = .ok (.iload_n 1, 1) := by decide +kernel
theorem dX5_placeThen_46 : decode cX5_placeThen 46 = .ok (.ifCond .ne 7, 3) := by decide +kernel
theorem dX5_placeThen_49 : decode cX5_placeThen 49 = .ok (.iconst 1, 1) := by decide +kernel
theorem dX5_placeThen_50 : decode cX5_placeThen 50 = .ok (.goto 4, 3) := by decide +kernel
theorem dX5_placeThen_53 : decode cX5_placeThen 53 = .ok (.iconst 5, 1) := by decide +kernel
theorem dX5_placeThen_54 : decode cX5_placeThen 54 = .ok (.ireturn, 1) := by decide +kernel
theorem dX5_placeThen_55 : decode cX5_placeThen 55 = .ok (.iload_n 1, 1) := by decide +kernel
theorem dX5_placeThen_56 : decode cX5_placeThen 56 = .ok (.iconst 1, 1) := by decide +kernel
theorem dX5_placeThen_57 : decode cX5_placeThen 57 = .ok (.if_icmp .ne 7, 3) := by decide +kernel
theorem dX5_placeThen_60 : decode cX5_placeThen 60 = .ok (.iconst 2, 1) := by decide +kernel
theorem dX5_placeThen_61 : decode cX5_placeThen 61 = .ok (.goto 4, 3) := by decide +kernel
theorem dX5_placeThen_64 : decode cX5_placeThen 64 = .ok (.iconst 5, 1) := by decide +kernel
theorem dX5_placeThen_65 : decode cX5_placeThen 65 = .ok (.ireturn, 1) := by decide +kernel
theorem dX5_placeThen_66 : decode cX5_placeThen 66 = .ok (.iload_n 1, 1) := by decide +kernel
theorem dX5_placeThen_67 : decode cX5_placeThen 67 = .ok (.iconst 2, 1) := by decide +kernel
theorem dX5_placeThen_68 : decode cX5_placeThen 68 = .ok (.if_icmp .ne 7, 3) := by decide +kernel
theorem dX5_placeThen_71 : decode cX5_placeThen 71 = .ok (.iconst 3, 1) := by decide +kernel
theorem dX5_placeThen_72 : decode cX5_placeThen 72 = .ok (.goto 12, 3) := by decide +kernel
theorem dX5_placeThen_75 : decode cX5_placeThen 75 = .ok (.iload_n 1, 1) := by decide +kernel
theorem dX5_placeThen_76 : decode cX5_placeThen 76 = .ok (.ifCond .ne 7, 3) := by decide +kernel
theorem dX5_placeThen_79 : decode cX5_placeThen 79 = .ok (.iconst 4, 1) := by decide +kernel
theorem dX5_placeThen_80 : decode cX5_placeThen 80 = .ok (.goto 4, 3) := by decide +kernel
theorem dX5_placeThen_83 : decode cX5_placeThen 83 = .ok (.iconst 5, 1) := by decide +kernel
theorem dX5_placeThen_84 : decode cX5_placeThen 84 = .ok (.ireturn, 1) := by decide +kernel
theorem dX5_placeThen_85 : decode cX5_placeThen 85 = .ok (.iconst 5, 1) := by decide +kernel
theorem dX5_placeThen_86 : decode cX5_placeThen 86 = .ok (.ireturn, 1) := by decide +kernel
set_option maxRecDepth 20000 in
theorem ggX5_whyNot_X5_hasWord : GoodIn wsX5_whyNot wsX5_hasWord := goodIn_r _ [8, 9, 10, 11, 12, 13, 14, 15, 16, 17, 18, 19, 20, 21, 22, 23, 24, 25, 26, 27, 28, 29, 30, 31, 32, 33, 34, 35, 36, 37, 38, 39, 40, 41, 42] (by decide +kernel) (by decide +kernel)
set_option maxRecDepth 20000 in
theorem gX5_whyNot_X5_hasWord : GoodIn wsX5_whyNot (wsV RX5 138 RX5 yX5_hasWord wsX5_hasWord) := goodIn_app (goodIn_of _ (by decide +kernel)) ggX5_whyNot_X5_hasWord
theorem dX5_whyNot_0 : decode cX5_whyNot 0 = .ok (.iload_n 1, 1) := by decide +kernel
theorem dX5_whyNot_1 : decode cX5_whyNot 1 = .ok (.tableswitch 149 0 3 #[31, 65, 105, 120], 31) := by decide +kernel
theorem dX5_whyNot_32 : decode cX5_whyNot 32 = .ok (.aload_n 0, 1) := by decide +kernel
theorem dX5_whyNot_33 : decode cX5_whyNot 33 = .ok (.iload_n 2, 1) := by decide +kernel
theorem dX5_whyNot_34 : decode cX5_whyNot 34 = .ok (.iload_n 3, 1) := by decide +kernel
theorem dX5_whyNot_35 : decode cX5_whyNot 35 = .ok (.invokevirtual 138, 3) := by decide +kernel
theorem dX5_whyNot_38 : decode cX5_whyNot 38 = .ok (.ifCond .eq 7, 3) := by decide +kernel
theorem dX5_whyNot_41 : decode cX5_whyNot 41 = .ok (.iconst 1, 1) := by decide +kernel
theorem dX5_whyNot_42 : decode cX5_whyNot 42 = .ok (.goto 23, 3) := by decide +kernel
theorem dX5_whyNot_45 : decode cX5_whyNot 45 = .ok (.aload_n 0, 1) := by decide +kernel
theorem dX5_whyNot_46 : decode cX5_whyNot 46 = .ok (.getfield 19, 3) := by decide +kernel
theorem dX5_whyNot_49 : decode cX5_whyNot 49 = .ok (.iload_n 2, 1) := by decide +kernel
theorem dX5_whyNot_50 : decode cX5_whyNot 50 = .ok (.iaload, 1) := by decide +kernel
theorem dX5_whyNot_51 : decode cX5_whyNot 51 = .ok (.aload_n 0, 1) := by decide +kernel
theorem dX5_whyNot_52 : decode cX5_whyNot 52 = .ok (.getfield 7, 3) := by decide +kernel
theorem dX5_whyNot_55 : decode cX5_whyNot 55 = .ok (.iload_n 3, 1) := by decide +kernel
theorem dX5_whyNot_56 : decode cX5_whyNot 56 = .ok (.iaload, 1) := by decide +kernel
theorem dX5_whyNot_57 : decode cX5_whyNot 57 = .ok (.if_icmp .ge 7, 3) := by decide +kernel
theorem dX5_whyNot_60 : decode cX5_whyNot 60 = .ok (.iconst 3, 1) := by decide +kernel
theorem dX5_whyNot_61 : decode cX5_whyNot 61 = .ok (.goto 4, 3) := by decide +kernel
theorem dX5_whyNot_64 : decode cX5_whyNot 64 = .ok (.iconst 0, 1) := by decide +kernel
theorem dX5_whyNot_65 : decode cX5_whyNot 65 = .ok (.ireturn, 1) := by decide +kernel
theorem dX5_whyNot_66 : decode cX5_whyNot 66 = .ok (.aload_n 0, 1) := by decide +kernel
theorem dX5_whyNot_67 : decode cX5_whyNot 67 = .ok (.iload_n 2, 1) := by decide +kernel
theorem dX5_whyNot_68 : decode cX5_whyNot 68 = .ok (.iload_n 3, 1) := by decide +kernel
theorem dX5_whyNot_69 : decode cX5_whyNot 69 = .ok (.invokevirtual 138, 3) := by decide +kernel
theorem dX5_whyNot_72 : decode cX5_whyNot 72 = .ok (.ifCond .ne 7, 3) := by decide +kernel
theorem dX5_whyNot_75 : decode cX5_whyNot 75 = .ok (.iconst 2, 1) := by decide +kernel
theorem dX5_whyNot_76 : decode cX5_whyNot 76 = .ok (.goto 29, 3) := by decide +kernel
theorem dX5_whyNot_79 : decode cX5_whyNot 79 = .ok (.aload_n 0, 1) := by decide +kernel
theorem dX5_whyNot_80 : decode cX5_whyNot 80 = .ok (.getfield 19, 3) := by decide +kernel
theorem dX5_whyNot_83 : decode cX5_whyNot 83 = .ok (.iload_n 2, 1) := by decide +kernel
theorem dX5_whyNot_84 : decode cX5_whyNot 84 = .ok (.iaload, 1) := by decide +kernel
theorem dX5_whyNot_85 : decode cX5_whyNot 85 = .ok (.aload_n 0, 1) := by decide +kernel
theorem dX5_whyNot_86 : decode cX5_whyNot 86 = .ok (.getfield 7, 3) := by decide +kernel
theorem dX5_whyNot_89 : decode cX5_whyNot 89 = .ok (.iload_n 3, 1) := by decide +kernel
theorem dX5_whyNot_90 : decode cX5_whyNot 90 = .ok (.iaload, 1) := by decide +kernel
theorem dX5_whyNot_91 : decode cX5_whyNot 91 = .ok (.iconst 2, 1) := by decide +kernel
theorem dX5_whyNot_92 : decode cX5_whyNot 92 = .ok (.idiv, 1) := by decide +kernel
theorem dX5_whyNot_93 : decode cX5_whyNot 93 = .ok (.iadd, 1) := by decide +kernel
theorem dX5_whyNot_94 : decode cX5_whyNot 94 = .ok (.sipush 999, 3) := by decide +kernel
theorem dX5_whyNot_97 : decode cX5_whyNot 97 = .ok (.if_icmp .le 7, 3) := by decide +kernel
theorem dX5_whyNot_100 : decode cX5_whyNot 100 = .ok (.iconst 4, 1) := by decide +kernel
theorem dX5_whyNot_101 : decode cX5_whyNot 101 = .ok (.goto 4, 3) := by decide +kernel
theorem dX5_whyNot_104 : decode cX5_whyNot 104 = .ok (.iconst 0, 1) := by decide +kernel
theorem dX5_whyNot_105 : decode cX5_whyNot 105 = .ok (.ireturn, 1) := by decide +kernel
theorem dX5_whyNot_106 : decode cX5_whyNot 106 = .ok (.aload_n 0, 1) := by decide +kernel
theorem dX5_whyNot_107 : decode cX5_whyNot 107 = .ok (.iload_n 2, 1) := by decide +kernel
theorem dX5_whyNot_108 : decode cX5_whyNot 108 = .ok (.iload_n 3, 1) := by decide +kernel
theorem dX5_whyNot_109 : decode cX5_whyNot 109 = .ok (.invokevirtual 138, 3) := by decide +kernel
theorem dX5_whyNot_112 : decode cX5_whyNot 112 = .ok (.ifCond .eq 7, 3) := by decide +kernel
theorem dX5_whyNot_115 : decode cX5_whyNot 115 = .ok (.iconst 0, 1) := by decide +kernel
theorem dX5_whyNot_116 : decode cX5_whyNot 116 = .ok (.goto 4, 3) := by decide +kernel
theorem dX5_whyNot_119 : decode cX5_whyNot 119 = .ok (.iconst 2, 1) := by decide +kernel
theorem dX5_whyNot_120 : decode cX5_whyNot 120 = .ok (.ireturn, 1) := by decide +kernel
theorem dX5_whyNot_121 : decode cX5_whyNot 121 = .ok (.aload_n 0, 1) := by decide +kernel
theorem dX5_whyNot_122 : decode cX5_whyNot 122 = .ok (.iload 4, 2) := by decide +kernel
theorem dX5_whyNot_124 : decode cX5_whyNot 124 = .ok (.iload_n 3, 1) := by decide +kernel
theorem dX5_whyNot_125 : decode cX5_whyNot 125 = .ok (.invokevirtual 138, 3) := by decide +kernel
theorem dX5_whyNot_128 : decode cX5_whyNot 128 = .ok (.ifCond .eq 7, 3) := by decide +kernel
theorem dX5_whyNot_131 : decode cX5_whyNot 131 = .ok (.iconst 1, 1) := by decide +kernel
theorem dX5_whyNot_132 : decode cX5_whyNot 132 = .ok (.goto 17, 3) := by decide +kernel
theorem dX5_whyNot_135 : decode cX5_whyNot 135 = .ok (.aload_n 0, 1) := by decide +kernel
theorem dX5_whyNot_136 : decode cX5_whyNot 136 = .ok (.iload_n 2, 1) := by decide +kernel
theorem dX5_whyNot_137 : decode cX5_whyNot 137 = .ok (.iload_n 3, 1) := by decide +kernel
theorem dX5_whyNot_138 : decode cX5_whyNot 138 = .ok (.invokevirtual 138, 3) := by decide +kernel
theorem dX5_whyNot_141 : decode cX5_whyNot 141 = .ok (.ifCond .eq 7, 3) := by decide +kernel
theorem dX5_whyNot_144 : decode cX5_whyNot 144 = .ok (.iconst 0, 1) := by decide +kernel
theorem dX5_whyNot_145 : decode cX5_whyNot 145 = .ok (.goto 4, 3) := by decide +kernel
theorem dX5_whyNot_148 : decode cX5_whyNot 148 = .ok (.iconst 2, 1) := by decide +kernel
theorem dX5_whyNot_149 : decode cX5_whyNot 149 = .ok (.ireturn, 1) := by decide +kernel
theorem dX5_whyNot_150 : decode cX5_whyNot 150 = .ok (.aload_n 0, 1) := by decide +kernel
theorem dX5_whyNot_151 : decode cX5_whyNot 151 = .ok (.getfield 135, 3) := by decide +kernel
theorem dX5_whyNot_154 : decode cX5_whyNot 154 = .ok (.iconst 2, 1) := by decide +kernel
theorem dX5_whyNot_155 : decode cX5_whyNot 155 = .ok (.if_icmp .eq 11, 3) := by decide +kernel
theorem dX5_whyNot_158 : decode cX5_whyNot 158 = .ok (.aload_n 0, 1) := by decide +kernel
theorem dX5_whyNot_159 : decode cX5_whyNot 159 = .ok (.getfield 135, 3) := by decide +kernel
theorem dX5_whyNot_162 : decode cX5_whyNot 162 = .ok (.iconst 4, 1) := by decide +kernel
theorem dX5_whyNot_163 : decode cX5_whyNot 163 = .ok (.if_icmp .ne 7, 3) := by decide +kernel
theorem dX5_whyNot_166 : decode cX5_whyNot 166 = .ok (.iconst 0, 1) := by decide +kernel
theorem dX5_whyNot_167 : decode cX5_whyNot 167 = .ok (.goto 4, 3) := by decide +kernel
theorem dX5_whyNot_170 : decode cX5_whyNot 170 = .ok (.iconst 5, 1) := by decide +kernel
theorem dX5_whyNot_171 : decode cX5_whyNot 171 = .ok (.ireturn, 1) := by decide +kernel
set_option maxRecDepth 20000 in
theorem ggX5_speak_X5_placeThen : GoodIn wsX5_speak wsX5_placeThen := goodIn_r _ [12, 4, 13, 14, 15, 16, 17, 18, 19, 20, 21, 22, 23, 24, 25, 26, 27, 28, 29, 30, 31, 32, 33, 34, 35, 36, 37, 38, 39, 40, 41, 42, 43, 44, 45] (by decide +kernel) (by decide +kernel)
set_option maxRecDepth 20000 in
theorem gX5_speak_X5_placeThen : GoodIn wsX5_speak (wsV RX5 148 RX5 yX5_placeThen wsX5_placeThen) := goodIn_app (goodIn_of _ (by decide +kernel)) ggX5_speak_X5_placeThen
theorem dX5_speak_0 : decode cX5_speak 0 = .ok (.aload_n 0, 1) := by decide +kernel
theorem dX5_speak_1 : decode cX5_speak 1 = .ok (.dup, 1) := by decide +kernel
theorem dX5_speak_2 : decode cX5_speak 2 = .ok (.getfield 142, 3) := by decide +kernel
theorem dX5_speak_5 : decode cX5_speak 5 = .ok (.iconst 1, 1) := by decide +kernel
theorem dX5_speak_6 : decode cX5_speak 6 = .ok (.iadd, 1) := by decide +kernel
theorem dX5_speak_7 : decode cX5_speak 7 = .ok (.putfield 142, 3) := by decide +kernel
theorem dX5_speak_10 : decode cX5_speak 10 = .ok (.aload_n 0, 1) := by decide +kernel
theorem dX5_speak_11 : decode cX5_speak 11 = .ok (.dup, 1) := by decide +kernel
theorem dX5_speak_12 : decode cX5_speak 12 = .ok (.getfield 145, 3) := by decide +kernel
theorem dX5_speak_15 : decode cX5_speak 15 = .ok (.iconst 1, 1) := by decide +kernel
theorem dX5_speak_16 : decode cX5_speak 16 = .ok (.iadd, 1) := by decide +kernel
theorem dX5_speak_17 : decode cX5_speak 17 = .ok (.putfield 145, 3) := by decide +kernel
theorem dX5_speak_20 : decode cX5_speak 20 = .ok (.aload_n 0, 1) := by decide +kernel
theorem dX5_speak_21 : decode cX5_speak 21 = .ok (.aload_n 0, 1) := by decide +kernel
theorem dX5_speak_22 : decode cX5_speak 22 = .ok (.aload_n 0, 1) := by decide +kernel
theorem dX5_speak_23 : decode cX5_speak 23 = .ok (.getfield 13, 3) := by decide +kernel
theorem dX5_speak_26 : decode cX5_speak 26 = .ok (.iload_n 1, 1) := by decide +kernel
theorem dX5_speak_27 : decode cX5_speak 27 = .ok (.iaload, 1) := by decide +kernel
theorem dX5_speak_28 : decode cX5_speak 28 = .ok (.invokevirtual 148, 3) := by decide +kernel
theorem dX5_speak_31 : decode cX5_speak 31 = .ok (.putfield 135, 3) := by decide +kernel
theorem dX5_speak_34 : decode cX5_speak 34 = .ok (.aload_n 0, 1) := by decide +kernel
theorem dX5_speak_35 : decode cX5_speak 35 = .ok (.getfield 151, 3) := by decide +kernel
theorem dX5_speak_38 : decode cX5_speak 38 = .ok (.ifCond .lt 16, 3) := by decide +kernel
theorem dX5_speak_41 : decode cX5_speak 41 = .ok (.aload_n 0, 1) := by decide +kernel
theorem dX5_speak_42 : decode cX5_speak 42 = .ok (.getfield 7, 3) := by decide +kernel
theorem dX5_speak_45 : decode cX5_speak 45 = .ok (.iload_n 1, 1) := by decide +kernel
theorem dX5_speak_46 : decode cX5_speak 46 = .ok (.iaload, 1) := by decide +kernel
theorem dX5_speak_47 : decode cX5_speak 47 = .ok (.aload_n 0, 1) := by decide +kernel
theorem dX5_speak_48 : decode cX5_speak 48 = .ok (.getfield 154, 3) := by decide +kernel
theorem dX5_speak_51 : decode cX5_speak 51 = .ok (.if_icmp .le 18, 3) := by decide +kernel
theorem dX5_speak_54 : decode cX5_speak 54 = .ok (.aload_n 0, 1) := by decide +kernel
theorem dX5_speak_55 : decode cX5_speak 55 = .ok (.iload_n 1, 1) := by decide +kernel
theorem dX5_speak_56 : decode cX5_speak 56 = .ok (.putfield 151, 3) := by decide +kernel
theorem dX5_speak_59 : decode cX5_speak 59 = .ok (.aload_n 0, 1) := by decide +kernel
theorem dX5_speak_60 : decode cX5_speak 60 = .ok (.aload_n 0, 1) := by decide +kernel
theorem dX5_speak_61 : decode cX5_speak 61 = .ok (.getfield 7, 3) := by decide +kernel
theorem dX5_speak_64 : decode cX5_speak 64 = .ok (.iload_n 1, 1) := by decide +kernel
theorem dX5_speak_65 : decode cX5_speak 65 = .ok (.iaload, 1) := by decide +kernel
theorem dX5_speak_66 : decode cX5_speak 66 = .ok (.putfield 154, 3) := by decide +kernel
theorem dX5_speak_69 : decode cX5_speak 69 = .ok (.aload_n 0, 1) := by decide +kernel
theorem dX5_speak_70 : decode cX5_speak 70 = .ok (.getfield 7, 3) := by decide +kernel
theorem dX5_speak_73 : decode cX5_speak 73 = .ok (.iload_n 1, 1) := by decide +kernel
theorem dX5_speak_74 : decode cX5_speak 74 = .ok (.dup2, 1) := by decide +kernel
theorem dX5_speak_75 : decode cX5_speak 75 = .ok (.iaload, 1) := by decide +kernel
theorem dX5_speak_76 : decode cX5_speak 76 = .ok (.aload_n 0, 1) := by decide +kernel
theorem dX5_speak_77 : decode cX5_speak 77 = .ok (.getfield 7, 3) := by decide +kernel
theorem dX5_speak_80 : decode cX5_speak 80 = .ok (.iload_n 1, 1) := by decide +kernel
theorem dX5_speak_81 : decode cX5_speak 81 = .ok (.iaload, 1) := by decide +kernel
theorem dX5_speak_82 : decode cX5_speak 82 = .ok (.ifCond .le 7, 3) := by decide +kernel
theorem dX5_speak_85 : decode cX5_speak 85 = .ok (.iconst 1, 1) := by decide +kernel
theorem dX5_speak_86 : decode cX5_speak 86 = .ok (.goto 4, 3) := by decide +kernel
theorem dX5_speak_89 : decode cX5_speak 89 = .ok (.iconst 0, 1) := by decide +kernel
theorem dX5_speak_90 : decode cX5_speak 90 = .ok (.isub, 1) := by decide +kernel
theorem dX5_speak_91 : decode cX5_speak 91 = .ok (.iastore, 1) := by decide +kernel
theorem dX5_speak_92 : decode cX5_speak 92 = .ok (.return_, 1) := by decide +kernel
theorem dX5_beginCount_0 : decode cX5_beginCount 0 = .ok (.aload_n 0, 1) := by decide +kernel
theorem dX5_beginCount_1 : decode cX5_beginCount 1 = .ok (.iconst 0, 1) := by decide +kernel
theorem dX5_beginCount_2 : decode cX5_beginCount 2 = .ok (.putfield 157, 3) := by decide +kernel
theorem dX5_beginCount_5 : decode cX5_beginCount 5 = .ok (.aload_n 0, 1) := by decide +kernel
theorem dX5_beginCount_6 : decode cX5_beginCount 6 = .ok (.iconst 0, 1) := by decide +kernel
theorem dX5_beginCount_7 : decode cX5_beginCount 7 = .ok (.putfield 142, 3) := by decide +kernel
theorem dX5_beginCount_10 : decode cX5_beginCount 10 = .ok (.aload_n 0, 1) := by decide +kernel
theorem dX5_beginCount_11 : decode cX5_beginCount 11 = .ok (.bipush (-6), 2) := by decide +kernel
theorem dX5_beginCount_13 : decode cX5_beginCount 13 = .ok (.putfield 151, 3) := by decide +kernel
theorem dX5_beginCount_16 : decode cX5_beginCount 16 = .ok (.aload_n 0, 1) := by decide +kernel
theorem dX5_beginCount_17 : decode cX5_beginCount 17 = .ok (.iconst 0, 1) := by decide +kernel
theorem dX5_beginCount_18 : decode cX5_beginCount 18 = .ok (.putfield 154, 3) := by decide +kernel
theorem dX5_beginCount_21 : decode cX5_beginCount 21 = .ok (.aload_n 0, 1) := by decide +kernel
theorem dX5_beginCount_22 : decode cX5_beginCount 22 = .ok (.iconst 0, 1) := by decide +kernel
theorem dX5_beginCount_23 : decode cX5_beginCount 23 = .ok (.putfield 135, 3) := by decide +kernel
theorem dX5_beginCount_26 : decode cX5_beginCount 26 = .ok (.aload_n 0, 1) := by decide +kernel
theorem dX5_beginCount_27 : decode cX5_beginCount 27 = .ok (.iconst 0, 1) := by decide +kernel
theorem dX5_beginCount_28 : decode cX5_beginCount 28 = .ok (.putfield 145, 3) := by decide +kernel
theorem dX5_beginCount_31 : decode cX5_beginCount 31 = .ok (.return_, 1) := by decide +kernel
set_option maxRecDepth 20000 in
theorem ggX5_happen_X5_speak : GoodIn wsX5_happen wsX5_speak := goodIn_r _ [11, 12, 6, 13, 5, 14, 2, 15, 16, 17, 18, 10, 19, 20, 21, 22, 23, 24, 25, 26, 27, 28, 29, 30, 31, 32, 33, 34, 35, 36, 37, 38, 39, 40, 41, 42, 43, 44, 45, 46, 47, 48, 49, 50, 51, 52] (by decide +kernel) (by decide +kernel)
set_option maxRecDepth 20000 in
theorem gX5_happen_X5_speak : GoodIn wsX5_happen (wsV RX5 160 RX5 yX5_speak wsX5_speak) := goodIn_app (goodIn_of _ (by decide +kernel)) ggX5_happen_X5_speak
theorem dX5_happen_0 : decode cX5_happen 0 = .ok (.iload_n 1, 1) := by decide +kernel
theorem dX5_happen_1 : decode cX5_happen 1 = .ok (.tableswitch 133 0 3 #[31, 61, 95, 103], 31) := by decide +kernel
theorem dX5_happen_32 : decode cX5_happen 32 = .ok (.aload_n 0, 1) := by decide +kernel
theorem dX5_happen_33 : decode cX5_happen 33 = .ok (.getfield 19, 3) := by decide +kernel
theorem dX5_happen_36 : decode cX5_happen 36 = .ok (.iload_n 2, 1) := by decide +kernel
theorem dX5_happen_37 : decode cX5_happen 37 = .ok (.dup2, 1) := by decide +kernel
theorem dX5_happen_38 : decode cX5_happen 38 = .ok (.iaload, 1) := by decide +kernel
theorem dX5_happen_39 : decode cX5_happen 39 = .ok (.aload_n 0, 1) := by decide +kernel
theorem dX5_happen_40 : decode cX5_happen 40 = .ok (.getfield 7, 3) := by decide +kernel
theorem dX5_happen_43 : decode cX5_happen 43 = .ok (.iload_n 3, 1) := by decide +kernel
theorem dX5_happen_44 : decode cX5_happen 44 = .ok (.iaload, 1) := by decide +kernel
theorem dX5_happen_45 : decode cX5_happen 45 = .ok (.isub, 1) := by decide +kernel
theorem dX5_happen_46 : decode cX5_happen 46 = .ok (.iastore, 1) := by decide +kernel
theorem dX5_happen_47 : decode cX5_happen 47 = .ok (.aload_n 0, 1) := by decide +kernel
theorem dX5_happen_48 : decode cX5_happen 48 = .ok (.getfield 22, 3) := by decide +kernel
theorem dX5_happen_51 : decode cX5_happen 51 = .ok (.iload_n 2, 1) := by decide +kernel
theorem dX5_happen_52 : decode cX5_happen 52 = .ok (.dup2, 1) := by decide +kernel
theorem dX5_happen_53 : decode cX5_happen 53 = .ok (.iaload, 1) := by decide +kernel
theorem dX5_happen_54 : decode cX5_happen 54 = .ok (.iconst 1, 1) := by decide +kernel
theorem dX5_happen_55 : decode cX5_happen 55 = .ok (.iload_n 3, 1) := by decide +kernel
theorem dX5_happen_56 : decode cX5_happen 56 = .ok (.ishl, 1) := by decide +kernel
theorem dX5_happen_57 : decode cX5_happen 57 = .ok (.ior, 1) := by decide +kernel
theorem dX5_happen_58 : decode cX5_happen 58 = .ok (.iastore, 1) := by decide +kernel
theorem dX5_happen_59 : decode cX5_happen 59 = .ok (.goto 95, 3) := by decide +kernel
theorem dX5_happen_62 : decode cX5_happen 62 = .ok (.aload_n 0, 1) := by decide +kernel
theorem dX5_happen_63 : decode cX5_happen 63 = .ok (.getfield 19, 3) := by decide +kernel
theorem dX5_happen_66 : decode cX5_happen 66 = .ok (.iload_n 2, 1) := by decide +kernel
theorem dX5_happen_67 : decode cX5_happen 67 = .ok (.dup2, 1) := by decide +kernel
theorem dX5_happen_68 : decode cX5_happen 68 = .ok (.iaload, 1) := by decide +kernel
theorem dX5_happen_69 : decode cX5_happen 69 = .ok (.aload_n 0, 1) := by decide +kernel
theorem dX5_happen_70 : decode cX5_happen 70 = .ok (.getfield 7, 3) := by decide +kernel
theorem dX5_happen_73 : decode cX5_happen 73 = .ok (.iload_n 3, 1) := by decide +kernel
theorem dX5_happen_74 : decode cX5_happen 74 = .ok (.iaload, 1) := by decide +kernel
theorem dX5_happen_75 : decode cX5_happen 75 = .ok (.iconst 2, 1) := by decide +kernel
theorem dX5_happen_76 : decode cX5_happen 76 = .ok (.idiv, 1) := by decide +kernel
theorem dX5_happen_77 : decode cX5_happen 77 = .ok (.iadd, 1) := by decide +kernel
theorem dX5_happen_78 : decode cX5_happen 78 = .ok (.iastore, 1) := by decide +kernel
theorem dX5_happen_79 : decode cX5_happen 79 = .ok (.aload_n 0, 1) := by decide +kernel
theorem dX5_happen_80 : decode cX5_happen 80 = .ok (.getfield 22, 3) := by decide +kernel
theorem dX5_happen_83 : decode cX5_happen 83 = .ok (.iload_n 2, 1) := by decide +kernel
theorem dX5_happen_84 : decode cX5_happen 84 = .ok (.dup2, 1) := by decide +kernel
theorem dX5_happen_85 : decode cX5_happen 85 = .ok (.iaload, 1) := by decide +kernel
theorem dX5_happen_86 : decode cX5_happen 86 = .ok (.iconst 1, 1) := by decide +kernel
theorem dX5_happen_87 : decode cX5_happen 87 = .ok (.iload_n 3, 1) := by decide +kernel
theorem dX5_happen_88 : decode cX5_happen 88 = .ok (.ishl, 1) := by decide +kernel
theorem dX5_happen_89 : decode cX5_happen 89 = .ok (.iconst (-1), 1) := by decide +kernel
theorem dX5_happen_90 : decode cX5_happen 90 = .ok (.ixor, 1) := by decide +kernel
theorem dX5_happen_91 : decode cX5_happen 91 = .ok (.iand, 1) := by decide +kernel
theorem dX5_happen_92 : decode cX5_happen 92 = .ok (.iastore, 1) := by decide +kernel
theorem dX5_happen_93 : decode cX5_happen 93 = .ok (.goto 61, 3) := by decide +kernel
theorem dX5_happen_96 : decode cX5_happen 96 = .ok (.aload_n 0, 1) := by decide +kernel
theorem dX5_happen_97 : decode cX5_happen 97 = .ok (.iload_n 3, 1) := by decide +kernel
theorem dX5_happen_98 : decode cX5_happen 98 = .ok (.invokevirtual 160, 3) := by decide +kernel
theorem dX5_happen_101 : decode cX5_happen 101 = .ok (.goto 53, 3) := by decide +kernel
theorem dX5_happen_104 : decode cX5_happen 104 = .ok (.aload_n 0, 1) := by decide +kernel
theorem dX5_happen_105 : decode cX5_happen 105 = .ok (.getfield 22, 3) := by decide +kernel
theorem dX5_happen_108 : decode cX5_happen 108 = .ok (.iload 4, 2) := by decide +kernel
theorem dX5_happen_110 : decode cX5_happen 110 = .ok (.dup2, 1) := by decide +kernel
theorem dX5_happen_111 : decode cX5_happen 111 = .ok (.iaload, 1) := by decide +kernel
theorem dX5_happen_112 : decode cX5_happen 112 = .ok (.iconst 1, 1) := by decide +kernel
theorem dX5_happen_113 : decode cX5_happen 113 = .ok (.iload_n 3, 1) := by decide +kernel
theorem dX5_happen_114 : decode cX5_happen 114 = .ok (.ishl, 1) := by decide +kernel
theorem dX5_happen_115 : decode cX5_happen 115 = .ok (.ior, 1) := by decide +kernel
theorem dX5_happen_116 : decode cX5_happen 116 = .ok (.iastore, 1) := by decide +kernel
theorem dX5_happen_117 : decode cX5_happen 117 = .ok (.aload_n 0, 1) := by decide +kernel
theorem dX5_happen_118 : decode cX5_happen 118 = .ok (.getfield 22, 3) := by decide +kernel
theorem dX5_happen_121 : decode cX5_happen 121 = .ok (.iload_n 2, 1) := by decide +kernel
theorem dX5_happen_122 : decode cX5_happen 122 = .ok (.dup2, 1) := by decide +kernel
theorem dX5_happen_123 : decode cX5_happen 123 = .ok (.iaload, 1) := by decide +kernel
theorem dX5_happen_124 : decode cX5_happen 124 = .ok (.iconst 1, 1) := by decide +kernel
theorem dX5_happen_125 : decode cX5_happen 125 = .ok (.iload_n 3, 1) := by decide +kernel
theorem dX5_happen_126 : decode cX5_happen 126 = .ok (.ishl, 1) := by decide +kernel
theorem dX5_happen_127 : decode cX5_happen 127 = .ok (.iconst (-1), 1) := by decide +kernel
theorem dX5_happen_128 : decode cX5_happen 128 = .ok (.ixor, 1) := by decide +kernel
theorem dX5_happen_129 : decode cX5_happen 129 = .ok (.iand, 1) := by decide +kernel
theorem dX5_happen_130 : decode cX5_happen 130 = .ok (.iastore, 1) := by decide +kernel
theorem dX5_happen_131 : decode cX5_happen 131 = .ok (.goto 23, 3) := by decide +kernel
theorem dX5_happen_134 : decode cX5_happen 134 = .ok (.aload_n 0, 1) := by decide +kernel
theorem dX5_happen_135 : decode cX5_happen 135 = .ok (.dup, 1) := by decide +kernel
theorem dX5_happen_136 : decode cX5_happen 136 = .ok (.getfield 157, 3) := by decide +kernel
theorem dX5_happen_139 : decode cX5_happen 139 = .ok (.iconst 1, 1) := by decide +kernel
theorem dX5_happen_140 : decode cX5_happen 140 = .ok (.iadd, 1) := by decide +kernel
theorem dX5_happen_141 : decode cX5_happen 141 = .ok (.putfield 157, 3) := by decide +kernel
theorem dX5_happen_144 : decode cX5_happen 144 = .ok (.aload_n 0, 1) := by decide +kernel
theorem dX5_happen_145 : decode cX5_happen 145 = .ok (.iconst 0, 1) := by decide +kernel
theorem dX5_happen_146 : decode cX5_happen 146 = .ok (.putfield 135, 3) := by decide +kernel
theorem dX5_happen_149 : decode cX5_happen 149 = .ok (.aload_n 0, 1) := by decide +kernel
theorem dX5_happen_150 : decode cX5_happen 150 = .ok (.iconst 0, 1) := by decide +kernel
theorem dX5_happen_151 : decode cX5_happen 151 = .ok (.putfield 145, 3) := by decide +kernel
theorem dX5_happen_154 : decode cX5_happen 154 = .ok (.return_, 1) := by decide +kernel
theorem dX5_keepNow_0 : decode cX5_keepNow 0 = .ok (.iconst 0, 1) := by decide +kernel
theorem dX5_keepNow_1 : decode cX5_keepNow 1 = .ok (.istore_n 1, 1) := by decide +kernel
theorem dX5_keepNow_2 : decode cX5_keepNow 2 = .ok (.iload_n 1, 1) := by decide +kernel
theorem dX5_keepNow_3 : decode cX5_keepNow 3 = .ok (.bipush 12, 2) := by decide +kernel
theorem dX5_keepNow_5 : decode cX5_keepNow 5 = .ok (.if_icmp .ge 21, 3) := by decide +kernel
theorem dX5_keepNow_8 : decode cX5_keepNow 8 = .ok (.aload_n 0, 1) := by decide +kernel
theorem dX5_keepNow_9 : decode cX5_keepNow 9 = .ok (.getfield 52, 3) := by decide +kernel
theorem dX5_keepNow_12 : decode cX5_keepNow 12 = .ok (.iload_n 1, 1) := by decide +kernel
theorem dX5_keepNow_13 : decode cX5_keepNow 13 = .ok (.aload_n 0, 1) := by decide +kernel
theorem dX5_keepNow_14 : decode cX5_keepNow 14 = .ok (.getfield 7, 3) := by decide +kernel
theorem dX5_keepNow_17 : decode cX5_keepNow 17 = .ok (.iload_n 1, 1) := by decide +kernel
theorem dX5_keepNow_18 : decode cX5_keepNow 18 = .ok (.iaload, 1) := by decide +kernel
theorem dX5_keepNow_19 : decode cX5_keepNow 19 = .ok (.iastore, 1) := by decide +kernel
theorem dX5_keepNow_20 : decode cX5_keepNow 20 = .ok (.iinc 1 1, 3) := by decide +kernel
theorem dX5_keepNow_23 : decode cX5_keepNow 23 = .ok (.goto (-21), 3) := by decide +kernel
theorem dX5_keepNow_26 : decode cX5_keepNow 26 = .ok (.iconst 0, 1) := by decide +kernel
theorem dX5_keepNow_27 : decode cX5_keepNow 27 = .ok (.istore_n 1, 1) := by decide +kernel
theorem dX5_keepNow_28 : decode cX5_keepNow 28 = .ok (.iload_n 1, 1) := by decide +kernel
theorem dX5_keepNow_29 : decode cX5_keepNow 29 = .ok (.iconst 4, 1) := by decide +kernel
theorem dX5_keepNow_30 : decode cX5_keepNow 30 = .ok (.if_icmp .ge 39, 3) := by decide +kernel
theorem dX5_keepNow_33 : decode cX5_keepNow 33 = .ok (.aload_n 0, 1) := by decide +kernel
theorem dX5_keepNow_34 : decode cX5_keepNow 34 = .ok (.getfield 52, 3) := by decide +kernel
theorem dX5_keepNow_37 : decode cX5_keepNow 37 = .ok (.bipush 12, 2) := by decide +kernel
theorem dX5_keepNow_39 : decode cX5_keepNow 39 = .ok (.iload_n 1, 1) := by decide +kernel
theorem dX5_keepNow_40 : decode cX5_keepNow 40 = .ok (.iadd, 1) := by decide +kernel
theorem dX5_keepNow_41 : decode cX5_keepNow 41 = .ok (.aload_n 0, 1) := by decide +kernel
theorem dX5_keepNow_42 : decode cX5_keepNow 42 = .ok (.getfield 19, 3) := by decide +kernel
theorem dX5_keepNow_45 : decode cX5_keepNow 45 = .ok (.iload_n 1, 1) := by decide +kernel
theorem dX5_keepNow_46 : decode cX5_keepNow 46 = .ok (.iaload, 1) := by decide +kernel
theorem dX5_keepNow_47 : decode cX5_keepNow 47 = .ok (.iastore, 1) := by decide +kernel
theorem dX5_keepNow_48 : decode cX5_keepNow 48 = .ok (.aload_n 0, 1) := by decide +kernel
theorem dX5_keepNow_49 : decode cX5_keepNow 49 = .ok (.getfield 52, 3) := by decide +kernel
theorem dX5_keepNow_52 : decode cX5_keepNow 52 = .ok (.bipush 16, 2) := by decide +kernel
theorem dX5_keepNow_54 : decode cX5_keepNow 54 = .ok (.iload_n 1, 1) := by decide +kernel
theorem dX5_keepNow_55 : decode cX5_keepNow 55 = .ok (.iadd, 1) := by decide +kernel
theorem dX5_keepNow_56 : decode cX5_keepNow 56 = .ok (.aload_n 0, 1) := by decide +kernel
theorem dX5_keepNow_57 : decode cX5_keepNow 57 = .ok (.getfield 22, 3) := by decide +kernel
theorem dX5_keepNow_60 : decode cX5_keepNow 60 = .ok (.iload_n 1, 1) := by decide +kernel
theorem dX5_keepNow_61 : decode cX5_keepNow 61 = .ok (.iaload, 1) := by decide +kernel
theorem dX5_keepNow_62 : decode cX5_keepNow 62 = .ok (.iastore, 1) := by decide +kernel
theorem dX5_keepNow_63 : decode cX5_keepNow 63 = .ok (.iinc 1 1, 3) := by decide +kernel
theorem dX5_keepNow_66 : decode cX5_keepNow 66 = .ok (.goto (-38), 3) := by decide +kernel
theorem dX5_keepNow_69 : decode cX5_keepNow 69 = .ok (.return_, 1) := by decide +kernel
theorem dX5_back_0 : decode cX5_back 0 = .ok (.iconst 0, 1) := by decide +kernel
theorem dX5_back_1 : decode cX5_back 1 = .ok (.istore_n 2, 1) := by decide +kernel
theorem dX5_back_2 : decode cX5_back 2 = .ok (.iload_n 2, 1) := by decide +kernel
theorem dX5_back_3 : decode cX5_back 3 = .ok (.bipush 12, 2) := by decide +kernel
theorem dX5_back_5 : decode cX5_back 5 = .ok (.if_icmp .ge 21, 3) := by decide +kernel
theorem dX5_back_8 : decode cX5_back 8 = .ok (.aload_n 0, 1) := by decide +kernel
theorem dX5_back_9 : decode cX5_back 9 = .ok (.getfield 7, 3) := by decide +kernel
theorem dX5_back_12 : decode cX5_back 12 = .ok (.iload_n 2, 1) := by decide +kernel
theorem dX5_back_13 : decode cX5_back 13 = .ok (.aload_n 0, 1) := by decide +kernel
theorem dX5_back_14 : decode cX5_back 14 = .ok (.getfield 52, 3) := by decide +kernel
theorem dX5_back_17 : decode cX5_back 17 = .ok (.iload_n 2, 1) := by decide +kernel
theorem dX5_back_18 : decode cX5_back 18 = .ok (.iaload, 1) := by decide +kernel
theorem dX5_back_19 : decode cX5_back 19 = .ok (.iastore, 1) := by decide +kernel
theorem dX5_back_20 : decode cX5_back 20 = .ok (.iinc 2 1, 3) := by decide +kernel
theorem dX5_back_23 : decode cX5_back 23 = .ok (.goto (-21), 3) := by decide +kernel
theorem dX5_back_26 : decode cX5_back 26 = .ok (.iconst 0, 1) := by decide +kernel
theorem dX5_back_27 : decode cX5_back 27 = .ok (.istore_n 2, 1) := by decide +kernel
theorem dX5_back_28 : decode cX5_back 28 = .ok (.iload_n 2, 1) := by decide +kernel
theorem dX5_back_29 : decode cX5_back 29 = .ok (.iconst 4, 1) := by decide +kernel
theorem dX5_back_30 : decode cX5_back 30 = .ok (.if_icmp .ge 39, 3) := by decide +kernel
theorem dX5_back_33 : decode cX5_back 33 = .ok (.aload_n 0, 1) := by decide +kernel
theorem dX5_back_34 : decode cX5_back 34 = .ok (.getfield 19, 3) := by decide +kernel
theorem dX5_back_37 : decode cX5_back 37 = .ok (.iload_n 2, 1) := by decide +kernel
theorem dX5_back_38 : decode cX5_back 38 = .ok (.aload_n 0, 1) := by decide +kernel
theorem dX5_back_39 : decode cX5_back 39 = .ok (.getfield 52, 3) := by decide +kernel
theorem dX5_back_42 : decode cX5_back 42 = .ok (.bipush 12, 2) := by decide +kernel
theorem dX5_back_44 : decode cX5_back 44 = .ok (.iload_n 2, 1) := by decide +kernel
theorem dX5_back_45 : decode cX5_back 45 = .ok (.iadd, 1) := by decide +kernel
theorem dX5_back_46 : decode cX5_back 46 = .ok (.iaload, 1) := by decide +kernel
theorem dX5_back_47 : decode cX5_back 47 = .ok (.iastore, 1) := by decide +kernel
theorem dX5_back_48 : decode cX5_back 48 = .ok (.aload_n 0, 1) := by decide +kernel
theorem dX5_back_49 : decode cX5_back 49 = .ok (.getfield 22, 3) := by decide +kernel
theorem dX5_back_52 : decode cX5_back 52 = .ok (.iload_n 2, 1) := by decide +kernel
theorem dX5_back_53 : decode cX5_back 53 = .ok (.aload_n 0, 1) := by decide +kernel
theorem dX5_back_54 : decode cX5_back 54 = .ok (.getfield 52, 3) := by decide +kernel
theorem dX5_back_57 : decode cX5_back 57 = .ok (.bipush 16, 2) := by decide +kernel
theorem dX5_back_59 : decode cX5_back 59 = .ok (.iload_n 2, 1) := by decide +kernel
theorem dX5_back_60 : decode cX5_back 60 = .ok (.iadd, 1) := by decide +kernel
theorem dX5_back_61 : decode cX5_back 61 = .ok (.iaload, 1) := by decide +kernel
theorem dX5_back_62 : decode cX5_back 62 = .ok (.iastore, 1) := by decide +kernel
theorem dX5_back_63 : decode cX5_back 63 = .ok (.iinc 2 1, 3) := by decide +kernel
theorem dX5_back_66 : decode cX5_back 66 = .ok (.goto (-38), 3) := by decide +kernel
theorem dX5_back_69 : decode cX5_back 69 = .ok (.iload_n 1, 1) := by decide +kernel
theorem dX5_back_70 : decode cX5_back 70 = .ok (.ireturn, 1) := by decide +kernel
set_option maxRecDepth 20000 in
theorem ggX5_goDays_X5_beginCount : GoodIn wsX5_goDays wsX5_beginCount := goodIn_r _ [12, 13, 14, 15, 16, 17, 18, 43, 44, 45, 46, 47, 48, 49, 50, 51, 52, 53, 54, 55, 56, 57, 58, 59, 60, 61, 62, 63, 64, 65, 66, 67, 68, 69, 70, 71, 72, 73, 74, 75] (by decide +kernel) (by decide +kernel)
set_option maxRecDepth 20000 in
theorem gX5_goDays_X5_beginCount : GoodIn wsX5_goDays (wsV RX5 164 RX5 yX5_beginCount wsX5_beginCount) := goodIn_app (goodIn_of _ (by decide +kernel)) ggX5_goDays_X5_beginCount
set_option maxRecDepth 20000 in
theorem ggX5_goDays_X5_whyNot : GoodIn wsX5_goDays wsX5_whyNot := goodIn_r _ [22, 23, 24, 17, 25, 26, 27, 11, 28, 29, 43, 44, 45, 46, 47, 48, 49, 50, 51, 52, 53, 54, 55, 56, 57, 58, 59, 60, 61, 62, 63, 64, 65, 66, 67, 68, 69, 70, 71, 72, 73, 74, 75] (by decide +kernel) (by decide +kernel)
set_option maxRecDepth 20000 in
theorem gX5_goDays_X5_whyNot : GoodIn wsX5_goDays (wsV RX5 173 RX5 yX5_whyNot wsX5_whyNot) := goodIn_app (goodIn_of _ (by decide +kernel)) ggX5_goDays_X5_whyNot
set_option maxRecDepth 20000 in
theorem ggX5_goDays_X5_happen : GoodIn wsX5_goDays wsX5_happen := goodIn_r _ [33, 23, 24, 29, 13, 17, 18, 34, 35, 36, 11, 37, 14, 38, 15, 16, 39, 40, 41, 42, 43, 44, 45, 46, 47, 48, 49, 50, 51, 52, 53, 54, 55, 56, 57, 58, 59, 60, 61, 62, 63, 64, 65, 66, 67, 68, 69, 70, 71, 72, 73, 74, 75] (by decide +kernel) (by decide +kernel)
set_option maxRecDepth 20000 in
theorem gX5_goDays_X5_happen : GoodIn wsX5_goDays (wsV RX5 177 RX5 yX5_happen wsX5_happen) := goodIn_app (goodIn_of _ (by decide +kernel)) ggX5_goDays_X5_happen
theorem dX5_goDays_0 : decode cX5_goDays 0 = .ok (.aload_n 0, 1) := by decide +kernel
theorem dX5_goDays_1 : decode cX5_goDays 1 = .ok (.invokevirtual 164, 3) := by decide +kernel
theorem dX5_goDays_4 : decode cX5_goDays 4 = .ok (.aload_n 0, 1) := by decide +kernel
theorem dX5_goDays_5 : decode cX5_goDays 5 = .ok (.bipush (-6), 2) := by decide +kernel
theorem dX5_goDays_7 : decode cX5_goDays 7 = .ok (.putfield 167, 3) := by decide +kernel
theorem dX5_goDays_10 : decode cX5_goDays 10 = .ok (.aload_n 0, 1) := by decide +kernel
theorem dX5_goDays_11 : decode cX5_goDays 11 = .ok (.bipush (-6), 2) := by decide +kernel
theorem dX5_goDays_13 : decode cX5_goDays 13 = .ok (.putfield 170, 3) := by decide +kernel
theorem dX5_goDays_16 : decode cX5_goDays 16 = .ok (.iconst 0, 1) := by decide +kernel
theorem dX5_goDays_17 : decode cX5_goDays 17 = .ok (.istore_n 1, 1) := by decide +kernel
theorem dX5_goDays_18 : decode cX5_goDays 18 = .ok (.iload_n 1, 1) := by decide +kernel
theorem dX5_goDays_19 : decode cX5_goDays 19 = .ok (.aload_n 0, 1) := by decide +kernel
theorem dX5_goDays_20 : decode cX5_goDays 20 = .ok (.getfield 110, 3) := by decide +kernel
theorem dX5_goDays_23 : decode cX5_goDays 23 = .ok (.if_icmp .ge 105, 3) := by decide +kernel
theorem dX5_goDays_26 : decode cX5_goDays 26 = .ok (.aload_n 0, 1) := by decide +kernel
theorem dX5_goDays_27 : decode cX5_goDays 27 = .ok (.getfield 167, 3) := by decide +kernel
theorem dX5_goDays_30 : decode cX5_goDays 30 = .ok (.ifCond .ge 98, 3) := by decide +kernel
theorem dX5_goDays_33 : decode cX5_goDays 33 = .ok (.aload_n 0, 1) := by decide +kernel
theorem dX5_goDays_34 : decode cX5_goDays 34 = .ok (.aload_n 0, 1) := by decide +kernel
theorem dX5_goDays_35 : decode cX5_goDays 35 = .ok (.getfield 40, 3) := by decide +kernel
theorem dX5_goDays_38 : decode cX5_goDays 38 = .ok (.iload_n 1, 1) := by decide +kernel
theorem dX5_goDays_39 : decode cX5_goDays 39 = .ok (.iaload, 1) := by decide +kernel
theorem dX5_goDays_40 : decode cX5_goDays 40 = .ok (.aload_n 0, 1) := by decide +kernel
theorem dX5_goDays_41 : decode cX5_goDays 41 = .ok (.getfield 43, 3) := by decide +kernel
theorem dX5_goDays_44 : decode cX5_goDays 44 = .ok (.iload_n 1, 1) := by decide +kernel
theorem dX5_goDays_45 : decode cX5_goDays 45 = .ok (.iaload, 1) := by decide +kernel
theorem dX5_goDays_46 : decode cX5_goDays 46 = .ok (.aload_n 0, 1) := by decide +kernel
theorem dX5_goDays_47 : decode cX5_goDays 47 = .ok (.getfield 46, 3) := by decide +kernel
theorem dX5_goDays_50 : decode cX5_goDays 50 = .ok (.iload_n 1, 1) := by decide +kernel
theorem dX5_goDays_51 : decode cX5_goDays 51 = .ok (.iaload, 1) := by decide +kernel
theorem dX5_goDays_52 : decode cX5_goDays 52 = .ok (.aload_n 0, 1) := by decide +kernel
theorem dX5_goDays_53 : decode cX5_goDays 53 = .ok (.getfield 49, 3) := by decide +kernel
theorem dX5_goDays_56 : decode cX5_goDays 56 = .ok (.iload_n 1, 1) := by decide +kernel
theorem dX5_goDays_57 : decode cX5_goDays 57 = .ok (.iaload, 1) := by decide +kernel
theorem dX5_goDays_58 : decode cX5_goDays 58 = .ok (.invokevirtual 173, 3) := by decide +kernel
theorem dX5_goDays_61 : decode cX5_goDays 61 = .ok (.istore_n 2, 1) := by decide +kernel
theorem dX5_goDays_62 : decode cX5_goDays 62 = .ok (.aload_n 0, 1) := by decide +kernel
theorem dX5_goDays_63 : decode cX5_goDays 63 = .ok (.iload_n 2, 1) := by decide +kernel
theorem dX5_goDays_64 : decode cX5_goDays 64 = .ok (.ifCond .le 7, 3) := by decide +kernel
theorem dX5_goDays_67 : decode cX5_goDays 67 = .ok (.iload_n 1, 1) := by decide +kernel
theorem dX5_goDays_68 : decode cX5_goDays 68 = .ok (.goto 5, 3) := by decide +kernel
theorem dX5_goDays_71 : decode cX5_goDays 71 = .ok (.bipush (-6), 2) := by decide +kernel
theorem dX5_goDays_73 : decode cX5_goDays 73 = .ok (.putfield 167, 3) := by decide +kernel
theorem dX5_goDays_76 : decode cX5_goDays 76 = .ok (.aload_n 0, 1) := by decide +kernel
theorem dX5_goDays_77 : decode cX5_goDays 77 = .ok (.iload_n 2, 1) := by decide +kernel
theorem dX5_goDays_78 : decode cX5_goDays 78 = .ok (.ifCond .le 7, 3) := by decide +kernel
theorem dX5_goDays_81 : decode cX5_goDays 81 = .ok (.iload_n 2, 1) := by decide +kernel
theorem dX5_goDays_82 : decode cX5_goDays 82 = .ok (.goto 5, 3) := by decide +kernel
theorem dX5_goDays_85 : decode cX5_goDays 85 = .ok (.bipush (-6), 2) := by decide +kernel
theorem dX5_goDays_87 : decode cX5_goDays 87 = .ok (.putfield 170, 3) := by decide +kernel
theorem dX5_goDays_90 : decode cX5_goDays 90 = .ok (.iload_n 2, 1) := by decide +kernel
theorem dX5_goDays_91 : decode cX5_goDays 91 = .ok (.ifCond .ne 31, 3) := by decide +kernel
theorem dX5_goDays_94 : decode cX5_goDays 94 = .ok (.aload_n 0, 1) := by decide +kernel
theorem dX5_goDays_95 : decode cX5_goDays 95 = .ok (.aload_n 0, 1) := by decide +kernel
theorem dX5_goDays_96 : decode cX5_goDays 96 = .ok (.getfield 40, 3) := by decide +kernel
theorem dX5_goDays_99 : decode cX5_goDays 99 = .ok (.iload_n 1, 1) := by decide +kernel
theorem dX5_goDays_100 : decode cX5_goDays 100 = .ok (.iaload, 1) := by decide +kernel
theorem dX5_goDays_101 : decode cX5_goDays 101 = .ok (.aload_n 0, 1) := by decide +kernel
theorem dX5_goDays_102 : decode cX5_goDays 102 = .ok (.getfield 43, 3) := by decide +kernel
theorem dX5_goDays_105 : decode cX5_goDays 105 = .ok (.iload_n 1, 1) := by decide +kernel
theorem dX5_goDays_106 : decode cX5_goDays 106 = .ok (.iaload, 1) := by decide +kernel
theorem dX5_goDays_107 : decode cX5_goDays 107 = .ok (.aload_n 0, 1) := by decide +kernel
theorem dX5_goDays_108 : decode cX5_goDays 108 = .ok (.getfield 46, 3) := by decide +kernel
theorem dX5_goDays_111 : decode cX5_goDays 111 = .ok (.iload_n 1, 1) := by decide +kernel
theorem dX5_goDays_112 : decode cX5_goDays 112 = .ok (.iaload, 1) := by decide +kernel
theorem dX5_goDays_113 : decode cX5_goDays 113 = .ok (.aload_n 0, 1) := by decide +kernel
theorem dX5_goDays_114 : decode cX5_goDays 114 = .ok (.getfield 49, 3) := by decide +kernel
theorem dX5_goDays_117 : decode cX5_goDays 117 = .ok (.iload_n 1, 1) := by decide +kernel
theorem dX5_goDays_118 : decode cX5_goDays 118 = .ok (.iaload, 1) := by decide +kernel
theorem dX5_goDays_119 : decode cX5_goDays 119 = .ok (.invokevirtual 177, 3) := by decide +kernel
theorem dX5_goDays_122 : decode cX5_goDays 122 = .ok (.iinc 1 1, 3) := by decide +kernel
theorem dX5_goDays_125 : decode cX5_goDays 125 = .ok (.goto (-107), 3) := by decide +kernel
theorem dX5_goDays_128 : decode cX5_goDays 128 = .ok (.return_, 1) := by decide +kernel
set_option maxRecDepth 20000 in
theorem ggX5_refusal_X5_keepNow : GoodIn wsX5_refusal wsX5_keepNow := goodIn_r _ [6, 7, 8, 9, 10, 81, 82, 83, 84, 85, 86, 87, 88, 89, 90, 91, 92, 93, 94, 95, 96, 97, 98, 99, 100, 101, 102, 103, 104, 105, 106, 107, 108, 109, 110, 111, 112, 113] (by decide +kernel) (by decide +kernel)
set_option maxRecDepth 20000 in
theorem gX5_refusal_X5_keepNow : GoodIn wsX5_refusal (wsV RX5 181 RX5 yX5_keepNow wsX5_keepNow) := goodIn_app (goodIn_of _ (by decide +kernel)) ggX5_refusal_X5_keepNow
set_option maxRecDepth 20000 in
theorem ggX5_refusal_X5_fault : GoodIn wsX5_refusal wsX5_fault := goodIn_r _ [14, 15, 16, 17, 18, 19, 20, 5, 21, 22, 23, 24, 25, 26, 27, 28, 29, 30, 31, 32, 33, 34, 35, 36, 37, 38, 39, 40, 41, 42, 43, 44, 81, 82, 83, 84, 85, 86, 87, 88, 89, 90, 91, 92, 93, 94, 95, 96, 97, 98, 99, 100, 101, 102, 103, 104, 105, 106, 107, 108, 109, 110, 111, 112, 113] (by decide +kernel) (by decide +kernel)
set_option maxRecDepth 20000 in
theorem gX5_refusal_X5_fault : GoodIn wsX5_refusal (wsV RX5 184 RX5 yX5_fault wsX5_fault) := goodIn_app (goodIn_of _ (by decide +kernel)) ggX5_refusal_X5_fault
set_option maxRecDepth 20000 in
theorem ggX5_refusal_X5_goDays : GoodIn wsX5_refusal wsX5_goDays := goodIn_r _ [48, 1, 49, 15, 32, 33, 25, 22, 50, 51, 52, 5, 53, 54, 55, 56, 57, 58, 59, 60, 61, 62, 63, 9, 8, 64, 65, 66, 67, 10, 68, 69, 70, 71, 72, 73, 74, 75, 76, 77, 78, 79, 80, 81, 82, 83, 84, 85, 86, 87, 88, 89, 90, 91, 92, 93, 94, 95, 96, 97, 98, 99, 100, 101, 102, 103, 104, 105, 106, 107, 108, 109, 110, 111, 112, 113] (by decide +kernel) (by decide +kernel)
set_option maxRecDepth 20000 in
theorem gX5_refusal_X5_goDays : GoodIn wsX5_refusal (wsV RX5 187 RX5 yX5_goDays wsX5_goDays) := goodIn_app (goodIn_of _ (by decide +kernel)) ggX5_refusal_X5_goDays
theorem dX5_refusal_0 : decode cX5_refusal 0 = .ok (.aload_n 0, 1) := by decide +kernel
theorem dX5_refusal_1 : decode cX5_refusal 1 = .ok (.invokevirtual 181, 3) := by decide +kernel
theorem dX5_refusal_4 : decode cX5_refusal 4 = .ok (.aload_n 0, 1) := by decide +kernel
theorem dX5_refusal_5 : decode cX5_refusal 5 = .ok (.invokevirtual 184, 3) := by decide +kernel
theorem dX5_refusal_8 : decode cX5_refusal 8 = .ok (.ifCond .lt 6, 3) := by decide +kernel
theorem dX5_refusal_11 : decode cX5_refusal 11 = .ok (.bipush (-5), 2) := by decide +kernel
theorem dX5_refusal_13 : decode cX5_refusal 13 = .ok (.ireturn, 1) := by decide +kernel
theorem dX5_refusal_14 : decode cX5_refusal 14 = .ok (.aload_n 0, 1) := by decide +kernel
theorem dX5_refusal_15 : decode cX5_refusal 15 = .ok (.invokevirtual 187, 3) := by decide +kernel
theorem dX5_refusal_18 : decode cX5_refusal 18 = .ok (.aload_n 0, 1) := by decide +kernel
theorem dX5_refusal_19 : decode cX5_refusal 19 = .ok (.getfield 167, 3) := by decide +kernel
theorem dX5_refusal_22 : decode cX5_refusal 22 = .ok (.ifCond .lt 8, 3) := by decide +kernel
theorem dX5_refusal_25 : decode cX5_refusal 25 = .ok (.bipush (-3), 2) := by decide +kernel
theorem dX5_refusal_27 : decode cX5_refusal 27 = .ok (.goto 5, 3) := by decide +kernel
theorem dX5_refusal_30 : decode cX5_refusal 30 = .ok (.bipush (-6), 2) := by decide +kernel
theorem dX5_refusal_32 : decode cX5_refusal 32 = .ok (.ireturn, 1) := by decide +kernel
set_option maxRecDepth 20000 in
theorem ggX5_judge_X5_in : GoodIn wsX5_judge wsX5_in := goodIn_r _ [8] (by decide +kernel) (by decide +kernel)
set_option maxRecDepth 20000 in
theorem gX5_judge_X5_in : GoodIn wsX5_judge (va_wsS RX5 71 yX5_in wsX5_in) := goodIn_app (goodIn_of _ (by decide +kernel)) ggX5_judge_X5_in
set_option maxRecDepth 20000 in
theorem ggX5_judge_X5_refusal : GoodIn wsX5_judge wsX5_refusal := goodIn_r _ [12, 2, 13, 14, 15, 7, 16, 17, 18, 19, 20, 21, 22, 23, 24, 25, 26, 27, 28, 29, 30, 31, 32, 33, 34, 35, 36, 37, 38, 39, 40, 41, 42, 43, 5, 6, 8, 44, 45, 46, 47, 48, 49, 50, 51, 52, 53, 54, 55, 3, 56, 57, 58, 59, 4, 60, 61, 62, 63, 64, 65, 66, 67, 68, 69, 70, 71, 72, 73, 74, 75, 76, 77, 78, 79, 80, 81, 82, 83, 84, 85, 90, 91, 92, 93, 94, 95, 96, 97, 98, 99, 100, 101, 102, 103, 104, 105, 106, 107, 108, 109, 110, 111, 112, 113, 114, 115, 116, 117, 118, 119, 120, 121, 122] (by decide +kernel) (by decide +kernel)
set_option maxRecDepth 20000 in
theorem gX5_judge_X5_refusal : GoodIn wsX5_judge (wsV RX5 190 RX5 yX5_refusal wsX5_refusal) := goodIn_app (goodIn_of _ (by decide +kernel)) ggX5_judge_X5_refusal
set_option maxRecDepth 20000 in
theorem ggX5_judge_X5_back : GoodIn wsX5_judge wsX5_back := goodIn_r _ [89, 18, 17, 19, 20, 90, 91, 92, 93, 94, 95, 96, 97, 98, 99, 100, 101, 102, 103, 104, 105, 106, 107, 108, 109, 110, 111, 112, 113, 114, 115, 116, 117, 118, 119, 120, 121, 122] (by decide +kernel) (by decide +kernel)
set_option maxRecDepth 20000 in
theorem gX5_judge_X5_back : GoodIn wsX5_judge (wsV RX5 193 RX5 yX5_back wsX5_back) := goodIn_app (goodIn_of _ (by decide +kernel)) ggX5_judge_X5_back
theorem dX5_judge_0 : decode cX5_judge 0 = .ok (.iload_n 1, 1) := by decide +kernel
theorem dX5_judge_1 : decode cX5_judge 1 = .ok (.i2l, 1) := by decide +kernel
theorem dX5_judge_2 : decode cX5_judge 2 = .ok (.lconst 0, 1) := by decide +kernel
theorem dX5_judge_3 : decode cX5_judge 3 = .ok (.ldc2_w 83, 3) := by decide +kernel
theorem dX5_judge_6 : decode cX5_judge 6 = .ok (.invokestatic 71, 3) := by decide +kernel
theorem dX5_judge_9 : decode cX5_judge 9 = .ok (.ifCond .ne 6, 3) := by decide +kernel
theorem dX5_judge_12 : decode cX5_judge 12 = .ok (.bipush (-2), 2) := by decide +kernel
theorem dX5_judge_14 : decode cX5_judge 14 = .ok (.ireturn, 1) := by decide +kernel
theorem dX5_judge_15 : decode cX5_judge 15 = .ok (.aload_n 0, 1) := by decide +kernel
theorem dX5_judge_16 : decode cX5_judge 16 = .ok (.aload_n 0, 1) := by decide +kernel
theorem dX5_judge_17 : decode cX5_judge 17 = .ok (.invokevirtual 190, 3) := by decide +kernel
theorem dX5_judge_20 : decode cX5_judge 20 = .ok (.invokevirtual 193, 3) := by decide +kernel
theorem dX5_judge_23 : decode cX5_judge 23 = .ok (.istore_n 2, 1) := by decide +kernel
theorem dX5_judge_24 : decode cX5_judge 24 = .ok (.iload_n 2, 1) := by decide +kernel
theorem dX5_judge_25 : decode cX5_judge 25 = .ok (.bipush (-5), 2) := by decide +kernel
theorem dX5_judge_27 : decode cX5_judge 27 = .ok (.if_icmp .eq 14, 3) := by decide +kernel
theorem dX5_judge_30 : decode cX5_judge 30 = .ok (.iload_n 1, 1) := by decide +kernel
theorem dX5_judge_31 : decode cX5_judge 31 = .ok (.iconst 1, 1) := by decide +kernel
theorem dX5_judge_32 : decode cX5_judge 32 = .ok (.if_icmp .le 11, 3) := by decide +kernel
theorem dX5_judge_35 : decode cX5_judge 35 = .ok (.iload_n 2, 1) := by decide +kernel
theorem dX5_judge_36 : decode cX5_judge 36 = .ok (.bipush (-3), 2) := by decide +kernel
theorem dX5_judge_38 : decode cX5_judge 38 = .ok (.if_icmp .ne 5, 3) := by decide +kernel
theorem dX5_judge_41 : decode cX5_judge 41 = .ok (.iload_n 2, 1) := by decide +kernel
theorem dX5_judge_42 : decode cX5_judge 42 = .ok (.ireturn, 1) := by decide +kernel
