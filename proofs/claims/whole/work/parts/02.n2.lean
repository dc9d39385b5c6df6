set_option maxRecDepth 20000 in
theorem ggX3_perform_X3_buy : GoodIn wsX3_perform wsX3_buy := goodIn_r _ [13, 14, 15, 16, 17, 2, 18, 35, 36, 37, 38, 39, 40, 41, 42, 43, 44, 45] (by decide +kernel) (by decide +kernel)
set_option maxRecDepth 20000 in
theorem gX3_perform_X3_buy : GoodIn wsX3_perform (wsV RX3 82 RX3 yX3_buy wsX3_buy) := goodIn_app (goodIn_of _ (by decide +kernel)) ggX3_perform_X3_buy
set_option maxRecDepth 20000 in
theorem ggX3_perform_X3_handIn : GoodIn wsX3_perform wsX3_handIn := goodIn_r _ [22, 14, 15, 16, 17, 2, 18, 35, 36, 37, 38, 39, 40, 41, 42, 43, 44, 45] (by decide +kernel) (by decide +kernel)
set_option maxRecDepth 20000 in
theorem gX3_perform_X3_handIn : GoodIn wsX3_perform (wsV RX3 85 RX3 yX3_handIn wsX3_handIn) := goodIn_app (goodIn_of _ (by decide +kernel)) ggX3_perform_X3_handIn
set_option maxRecDepth 20000 in
theorem ggX3_perform_X3_speak : GoodIn wsX3_perform wsX3_speak := goodIn_r _ [26, 14, 16, 27, 28, 29, 30, 17, 2, 18, 35, 36, 37, 38, 39, 40, 41, 42, 43, 44, 45] (by decide +kernel) (by decide +kernel)
set_option maxRecDepth 20000 in
theorem gX3_perform_X3_speak : GoodIn wsX3_perform (wsV RX3 88 RX3 yX3_speak wsX3_speak) := goodIn_app (goodIn_of _ (by decide +kernel)) ggX3_perform_X3_speak
set_option maxRecDepth 20000 in
theorem ggX3_perform_X3_give : GoodIn wsX3_perform wsX3_give := goodIn_r _ [34, 14, 17, 2, 18, 35, 36, 37, 38, 39, 40, 41, 42, 43, 44, 45] (by decide +kernel) (by decide +kernel)
set_option maxRecDepth 20000 in
theorem gX3_perform_X3_give : GoodIn wsX3_perform (wsV RX3 91 RX3 yX3_give wsX3_give) := goodIn_app (goodIn_of _ (by decide +kernel)) ggX3_perform_X3_give
theorem dX3_perform_0 : decode cX3_perform 0 = .ok (.iload_n 2, 1) := by decide +kernel
theorem dX3_perform_1 : decode cX3_perform 1 = .ok (.invokestatic 79, 3) := by decide +kernel
theorem dX3_perform_4 : decode cX3_perform 4 = .ok (.ifCond .eq 18, 3) := by decide +kernel
theorem dX3_perform_7 : decode cX3_perform 7 = .ok (.iload 4, 2) := by decide +kernel
theorem dX3_perform_9 : decode cX3_perform 9 = .ok (.invokestatic 79, 3) := by decide +kernel
theorem dX3_perform_12 : decode cX3_perform 12 = .ok (.ifCond .eq 10, 3) := by decide +kernel
theorem dX3_perform_15 : decode cX3_perform 15 = .ok (.iload_n 3, 1) := by decide +kernel
theorem dX3_perform_16 : decode cX3_perform 16 = .ok (.invokestatic 50, 3) := by decide +kernel
theorem dX3_perform_19 : decode cX3_perform 19 = .ok (.ifCond .ne 5, 3) := by decide +kernel
theorem dX3_perform_22 : decode cX3_perform 22 = .ok (.iconst 2, 1) := by decide +kernel
theorem dX3_perform_23 : decode cX3_perform 23 = .ok (.ireturn, 1) := by decide +kernel
theorem dX3_perform_24 : decode cX3_perform 24 = .ok (.iload_n 1, 1) := by decide +kernel
theorem dX3_perform_25 : decode cX3_perform 25 = .ok (.tableswitch 48 0 2 #[27, 34, 41], 27) := by decide +kernel
theorem dX3_perform_52 : decode cX3_perform 52 = .ok (.aload_n 0, 1) := by decide +kernel
theorem dX3_perform_53 : decode cX3_perform 53 = .ok (.iload_n 2, 1) := by decide +kernel
theorem dX3_perform_54 : decode cX3_perform 54 = .ok (.iload_n 3, 1) := by decide +kernel
theorem dX3_perform_55 : decode cX3_perform 55 = .ok (.invokevirtual 82, 3) := by decide +kernel
theorem dX3_perform_58 : decode cX3_perform 58 = .ok (.ireturn, 1) := by decide +kernel
theorem dX3_perform_59 : decode cX3_perform 59 = .ok (.aload_n 0, 1) := by decide +kernel
theorem dX3_perform_60 : decode cX3_perform 60 = .ok (.iload_n 2, 1) := by decide +kernel
theorem dX3_perform_61 : decode cX3_perform 61 = .ok (.iload_n 3, 1) := by decide +kernel
theorem dX3_perform_62 : decode cX3_perform 62 = .ok (.invokevirtual 85, 3) := by decide +kernel
theorem dX3_perform_65 : decode cX3_perform 65 = .ok (.ireturn, 1) := by decide +kernel
theorem dX3_perform_66 : decode cX3_perform 66 = .ok (.aload_n 0, 1) := by decide +kernel
theorem dX3_perform_67 : decode cX3_perform 67 = .ok (.iload_n 2, 1) := by decide +kernel
theorem dX3_perform_68 : decode cX3_perform 68 = .ok (.iload_n 3, 1) := by decide +kernel
theorem dX3_perform_69 : decode cX3_perform 69 = .ok (.invokevirtual 88, 3) := by decide +kernel
theorem dX3_perform_72 : decode cX3_perform 72 = .ok (.ireturn, 1) := by decide +kernel
theorem dX3_perform_73 : decode cX3_perform 73 = .ok (.aload_n 0, 1) := by decide +kernel
theorem dX3_perform_74 : decode cX3_perform 74 = .ok (.iload_n 2, 1) := by decide +kernel
theorem dX3_perform_75 : decode cX3_perform 75 = .ok (.iload_n 3, 1) := by decide +kernel
theorem dX3_perform_76 : decode cX3_perform 76 = .ok (.iload 4, 2) := by decide +kernel
theorem dX3_perform_78 : decode cX3_perform 78 = .ok (.invokevirtual 91, 3) := by decide +kernel
theorem dX3_perform_81 : decode cX3_perform 81 = .ok (.ireturn, 1) := by decide +kernel
set_option maxRecDepth 20000 in
theorem ggX3_buy_X4_isIn : GoodIn wsX3_buy wsX4_isIn := goodIn_r _ [6] (by decide +kernel) (by decide +kernel)
set_option maxRecDepth 20000 in
theorem gX3_buy_X4_isIn_n54 : GoodIn wsX3_buy (wsX4_isIn) := ggX3_buy_X4_isIn
theorem dX3_buy_0 : decode cX3_buy 0 = .ok (.iload_n 2, 1) := by decide +kernel
theorem dX3_buy_1 : decode cX3_buy 1 = .ok (.aload_n 0, 1) := by decide +kernel
theorem dX3_buy_2 : decode cX3_buy 2 = .ok (.getfield 24, 3) := by decide +kernel
theorem dX3_buy_5 : decode cX3_buy 5 = .ok (.iload_n 1, 1) := by decide +kernel
theorem dX3_buy_6 : decode cX3_buy 6 = .ok (.iaload, 1) := by decide +kernel
theorem dX3_buy_7 : decode cX3_buy 7 = .ok (.invokestatic 54, 3) := by decide +kernel
theorem dX3_buy_10 : decode cX3_buy 10 = .ok (.ifCond .eq 5, 3) := by decide +kernel
theorem dX3_buy_13 : decode cX3_buy 13 = .ok (.iconst 1, 1) := by decide +kernel
theorem dX3_buy_14 : decode cX3_buy 14 = .ok (.ireturn, 1) := by decide +kernel
theorem dX3_buy_15 : decode cX3_buy 15 = .ok (.aload_n 0, 1) := by decide +kernel
theorem dX3_buy_16 : decode cX3_buy 16 = .ok (.getfield 21, 3) := by decide +kernel
theorem dX3_buy_19 : decode cX3_buy 19 = .ok (.iload_n 1, 1) := by decide +kernel
theorem dX3_buy_20 : decode cX3_buy 20 = .ok (.iaload, 1) := by decide +kernel
theorem dX3_buy_21 : decode cX3_buy 21 = .ok (.aload_n 0, 1) := by decide +kernel
theorem dX3_buy_22 : decode cX3_buy 22 = .ok (.getfield 9, 3) := by decide +kernel
theorem dX3_buy_25 : decode cX3_buy 25 = .ok (.iload_n 2, 1) := by decide +kernel
theorem dX3_buy_26 : decode cX3_buy 26 = .ok (.iaload, 1) := by decide +kernel
theorem dX3_buy_27 : decode cX3_buy 27 = .ok (.if_icmp .ge 5, 3) := by decide +kernel
theorem dX3_buy_30 : decode cX3_buy 30 = .ok (.iconst 3, 1) := by decide +kernel
theorem dX3_buy_31 : decode cX3_buy 31 = .ok (.ireturn, 1) := by decide +kernel
theorem dX3_buy_32 : decode cX3_buy 32 = .ok (.aload_n 0, 1) := by decide +kernel
theorem dX3_buy_33 : decode cX3_buy 33 = .ok (.getfield 21, 3) := by decide +kernel
theorem dX3_buy_36 : decode cX3_buy 36 = .ok (.iload_n 1, 1) := by decide +kernel
theorem dX3_buy_37 : decode cX3_buy 37 = .ok (.dup2, 1) := by decide +kernel
theorem dX3_buy_38 : decode cX3_buy 38 = .ok (.iaload, 1) := by decide +kernel
theorem dX3_buy_39 : decode cX3_buy 39 = .ok (.aload_n 0, 1) := by decide +kernel
theorem dX3_buy_40 : decode cX3_buy 40 = .ok (.getfield 9, 3) := by decide +kernel
theorem dX3_buy_43 : decode cX3_buy 43 = .ok (.iload_n 2, 1) := by decide +kernel
theorem dX3_buy_44 : decode cX3_buy 44 = .ok (.iaload, 1) := by decide +kernel
theorem dX3_buy_45 : decode cX3_buy 45 = .ok (.isub, 1) := by decide +kernel
theorem dX3_buy_46 : decode cX3_buy 46 = .ok (.iastore, 1) := by decide +kernel
theorem dX3_buy_47 : decode cX3_buy 47 = .ok (.aload_n 0, 1) := by decide +kernel
theorem dX3_buy_48 : decode cX3_buy 48 = .ok (.getfield 24, 3) := by decide +kernel
theorem dX3_buy_51 : decode cX3_buy 51 = .ok (.iload_n 1, 1) := by decide +kernel
theorem dX3_buy_52 : decode cX3_buy 52 = .ok (.dup2, 1) := by decide +kernel
theorem dX3_buy_53 : decode cX3_buy 53 = .ok (.iaload, 1) := by decide +kernel
theorem dX3_buy_54 : decode cX3_buy 54 = .ok (.iconst 1, 1) := by decide +kernel
theorem dX3_buy_55 : decode cX3_buy 55 = .ok (.iload_n 2, 1) := by decide +kernel
theorem dX3_buy_56 : decode cX3_buy 56 = .ok (.ishl, 1) := by decide +kernel
theorem dX3_buy_57 : decode cX3_buy 57 = .ok (.ior, 1) := by decide +kernel
theorem dX3_buy_58 : decode cX3_buy 58 = .ok (.iastore, 1) := by decide +kernel
theorem dX3_buy_59 : decode cX3_buy 59 = .ok (.iconst 0, 1) := by decide +kernel
theorem dX3_buy_60 : decode cX3_buy 60 = .ok (.ireturn, 1) := by decide +kernel
set_option maxRecDepth 20000 in
theorem ggX3_handIn_X4_isIn : GoodIn wsX3_handIn wsX4_isIn := goodIn_r _ [6] (by decide +kernel) (by decide +kernel)
set_option maxRecDepth 20000 in
theorem gX3_handIn_X4_isIn_n54 : GoodIn wsX3_handIn (wsX4_isIn) := ggX3_handIn_X4_isIn
theorem dX3_handIn_0 : decode cX3_handIn 0 = .ok (.iload_n 2, 1) := by decide +kernel
theorem dX3_handIn_1 : decode cX3_handIn 1 = .ok (.aload_n 0, 1) := by decide +kernel
theorem dX3_handIn_2 : decode cX3_handIn 2 = .ok (.getfield 24, 3) := by decide +kernel
theorem dX3_handIn_5 : decode cX3_handIn 5 = .ok (.iload_n 1, 1) := by decide +kernel
theorem dX3_handIn_6 : decode cX3_handIn 6 = .ok (.iaload, 1) := by decide +kernel
theorem dX3_handIn_7 : decode cX3_handIn 7 = .ok (.invokestatic 54, 3) := by decide +kernel
theorem dX3_handIn_10 : decode cX3_handIn 10 = .ok (.ifCond .ne 5, 3) := by decide +kernel
theorem dX3_handIn_13 : decode cX3_handIn 13 = .ok (.iconst 2, 1) := by decide +kernel
theorem dX3_handIn_14 : decode cX3_handIn 14 = .ok (.ireturn, 1) := by decide +kernel
theorem dX3_handIn_15 : decode cX3_handIn 15 = .ok (.aload_n 0, 1) := by decide +kernel
theorem dX3_handIn_16 : decode cX3_handIn 16 = .ok (.getfield 21, 3) := by decide +kernel
theorem dX3_handIn_19 : decode cX3_handIn 19 = .ok (.iload_n 1, 1) := by decide +kernel
theorem dX3_handIn_20 : decode cX3_handIn 20 = .ok (.iaload, 1) := by decide +kernel
theorem dX3_handIn_21 : decode cX3_handIn 21 = .ok (.aload_n 0, 1) := by decide +kernel
theorem dX3_handIn_22 : decode cX3_handIn 22 = .ok (.getfield 9, 3) := by decide +kernel
theorem dX3_handIn_25 : decode cX3_handIn 25 = .ok (.iload_n 2, 1) := by decide +kernel
theorem dX3_handIn_26 : decode cX3_handIn 26 = .ok (.iaload, 1) := by decide +kernel
theorem dX3_handIn_27 : decode cX3_handIn 27 = .ok (.iconst 2, 1) := by decide +kernel
theorem dX3_handIn_28 : decode cX3_handIn 28 = .ok (.idiv, 1) := by decide +kernel
theorem dX3_handIn_29 : decode cX3_handIn 29 = .ok (.iadd, 1) := by decide +kernel
theorem dX3_handIn_30 : decode cX3_handIn 30 = .ok (.istore_n 3, 1) := by decide +kernel
theorem dX3_handIn_31 : decode cX3_handIn 31 = .ok (.iload_n 3, 1) := by decide +kernel
theorem dX3_handIn_32 : decode cX3_handIn 32 = .ok (.sipush 999, 3) := by decide +kernel
theorem dX3_handIn_35 : decode cX3_handIn 35 = .ok (.if_icmp .le 5, 3) := by decide +kernel
theorem dX3_handIn_38 : decode cX3_handIn 38 = .ok (.iconst 4, 1) := by decide +kernel
theorem dX3_handIn_39 : decode cX3_handIn 39 = .ok (.ireturn, 1) := by decide +kernel
theorem dX3_handIn_40 : decode cX3_handIn 40 = .ok (.aload_n 0, 1) := by decide +kernel
theorem dX3_handIn_41 : decode cX3_handIn 41 = .ok (.getfield 21, 3) := by decide +kernel
theorem dX3_handIn_44 : decode cX3_handIn 44 = .ok (.iload_n 1, 1) := by decide +kernel
theorem dX3_handIn_45 : decode cX3_handIn 45 = .ok (.iload_n 3, 1) := by decide +kernel
theorem dX3_handIn_46 : decode cX3_handIn 46 = .ok (.iastore, 1) := by decide +kernel
theorem dX3_handIn_47 : decode cX3_handIn 47 = .ok (.aload_n 0, 1) := by decide +kernel
theorem dX3_handIn_48 : decode cX3_handIn 48 = .ok (.getfield 24, 3) := by decide +kernel
theorem dX3_handIn_51 : decode cX3_handIn 51 = .ok (.iload_n 1, 1) := by decide +kernel
theorem dX3_handIn_52 : decode cX3_handIn 52 = .ok (.dup2, 1) := by decide +kernel
theorem dX3_handIn_53 : decode cX3_handIn 53 = .ok (.iaload, 1) := by decide +kernel
theorem dX3_handIn_54 : decode cX3_handIn 54 = .ok (.iconst 1, 1) := by decide +kernel
theorem dX3_handIn_55 : decode cX3_handIn 55 = .ok (.iload_n 2, 1) := by decide +kernel
theorem dX3_handIn_56 : decode cX3_handIn 56 = .ok (.ishl, 1) := by decide +kernel
theorem dX3_handIn_57 : decode cX3_handIn 57 = .ok (.iconst (-1), 1) := by decide +kernel
theorem dX3_handIn_58 : decode cX3_handIn 58 = .ok (.ixor, 1) := by decide +kernel
theorem dX3_handIn_59 : decode cX3_handIn 59 = .ok (.iand, 1) := by decide +kernel
theorem dX3_handIn_60 : decode cX3_handIn 60 = .ok (.iastore, 1) := by decide +kernel
theorem dX3_handIn_61 : decode cX3_handIn 61 = .ok (.iconst 0, 1) := by decide +kernel
theorem dX3_handIn_62 : decode cX3_handIn 62 = .ok (.ireturn, 1) := by decide +kernel
set_option maxRecDepth 20000 in
theorem ggX3_speak_X4_isIn : GoodIn wsX3_speak wsX4_isIn := goodIn_r _ [9] (by decide +kernel) (by decide +kernel)
set_option maxRecDepth 20000 in
theorem gX3_speak_X4_isIn_n54 : GoodIn wsX3_speak (wsX4_isIn) := ggX3_speak_X4_isIn
theorem dX3_speak_0 : decode cX3_speak 0 = .ok (.iload_n 2, 1) := by decide +kernel
theorem dX3_speak_1 : decode cX3_speak 1 = .ok (.aload_n 0, 1) := by decide +kernel
theorem dX3_speak_2 : decode cX3_speak 2 = .ok (.getfield 24, 3) := by decide +kernel
theorem dX3_speak_5 : decode cX3_speak 5 = .ok (.iload_n 1, 1) := by decide +kernel
theorem dX3_speak_6 : decode cX3_speak 6 = .ok (.iaload, 1) := by decide +kernel
theorem dX3_speak_7 : decode cX3_speak 7 = .ok (.invokestatic 54, 3) := by decide +kernel
theorem dX3_speak_10 : decode cX3_speak 10 = .ok (.ifCond .ne 5, 3) := by decide +kernel
theorem dX3_speak_13 : decode cX3_speak 13 = .ok (.iconst 2, 1) := by decide +kernel
theorem dX3_speak_14 : decode cX3_speak 14 = .ok (.ireturn, 1) := by decide +kernel
theorem dX3_speak_15 : decode cX3_speak 15 = .ok (.aload_n 0, 1) := by decide +kernel
theorem dX3_speak_16 : decode cX3_speak 16 = .ok (.getfield 9, 3) := by decide +kernel
theorem dX3_speak_19 : decode cX3_speak 19 = .ok (.iload_n 2, 1) := by decide +kernel
theorem dX3_speak_20 : decode cX3_speak 20 = .ok (.iconst 0, 1) := by decide +kernel
theorem dX3_speak_21 : decode cX3_speak 21 = .ok (.aload_n 0, 1) := by decide +kernel
theorem dX3_speak_22 : decode cX3_speak 22 = .ok (.getfield 9, 3) := by decide +kernel
theorem dX3_speak_25 : decode cX3_speak 25 = .ok (.iload_n 2, 1) := by decide +kernel
theorem dX3_speak_26 : decode cX3_speak 26 = .ok (.iaload, 1) := by decide +kernel
theorem dX3_speak_27 : decode cX3_speak 27 = .ok (.iconst 1, 1) := by decide +kernel
theorem dX3_speak_28 : decode cX3_speak 28 = .ok (.isub, 1) := by decide +kernel
theorem dX3_speak_29 : decode cX3_speak 29 = .ok (.invokestatic 62, 3) := by decide +kernel
theorem dX3_speak_32 : decode cX3_speak 32 = .ok (.iastore, 1) := by decide +kernel
theorem dX3_speak_33 : decode cX3_speak 33 = .ok (.iconst 0, 1) := by decide +kernel
theorem dX3_speak_34 : decode cX3_speak 34 = .ok (.ireturn, 1) := by decide +kernel
set_option maxRecDepth 20000 in
theorem ggX3_give_X4_isIn : GoodIn wsX3_give wsX4_isIn := goodIn_r _ [4] (by decide +kernel) (by decide +kernel)
set_option maxRecDepth 20000 in
theorem gX3_give_X4_isIn_n54 : GoodIn wsX3_give (wsX4_isIn) := ggX3_give_X4_isIn
theorem dX3_give_0 : decode cX3_give 0 = .ok (.iload_n 2, 1) := by decide +kernel
theorem dX3_give_1 : decode cX3_give 1 = .ok (.aload_n 0, 1) := by decide +kernel
theorem dX3_give_2 : decode cX3_give 2 = .ok (.getfield 24, 3) := by decide +kernel
theorem dX3_give_5 : decode cX3_give 5 = .ok (.iload_n 3, 1) := by decide +kernel
theorem dX3_give_6 : decode cX3_give 6 = .ok (.iaload, 1) := by decide +kernel
theorem dX3_give_7 : decode cX3_give 7 = .ok (.invokestatic 54, 3) := by decide +kernel
theorem dX3_give_10 : decode cX3_give 10 = .ok (.ifCond .eq 5, 3) := by decide +kernel
theorem dX3_give_13 : decode cX3_give 13 = .ok (.iconst 1, 1) := by decide +kernel
theorem dX3_give_14 : decode cX3_give 14 = .ok (.ireturn, 1) := by decide +kernel
theorem dX3_give_15 : decode cX3_give 15 = .ok (.iload_n 2, 1) := by decide +kernel
theorem dX3_give_16 : decode cX3_give 16 = .ok (.aload_n 0, 1) := by decide +kernel
theorem dX3_give_17 : decode cX3_give 17 = .ok (.getfield 24, 3) := by decide +kernel
theorem dX3_give_20 : decode cX3_give 20 = .ok (.iload_n 1, 1) := by decide +kernel
theorem dX3_give_21 : decode cX3_give 21 = .ok (.iaload, 1) := by decide +kernel
theorem dX3_give_22 : decode cX3_give 22 = .ok (.invokestatic 54, 3) := by decide +kernel
theorem dX3_give_25 : decode cX3_give 25 = .ok (.ifCond .ne 5, 3) := by decide +kernel
theorem dX3_give_28 : decode cX3_give 28 = .ok (.iconst 2, 1) := by decide +kernel
theorem dX3_give_29 : decode cX3_give 29 = .ok (.ireturn, 1) := by decide +kernel
theorem dX3_give_30 : decode cX3_give 30 = .ok (.aload_n 0, 1) := by decide +kernel
theorem dX3_give_31 : decode cX3_give 31 = .ok (.getfield 24, 3) := by decide +kernel
theorem dX3_give_34 : decode cX3_give 34 = .ok (.iload_n 1, 1) := by decide +kernel
theorem dX3_give_35 : decode cX3_give 35 = .ok (.dup2, 1) := by decide +kernel
theorem dX3_give_36 : decode cX3_give 36 = .ok (.iaload, 1) := by decide +kernel
theorem dX3_give_37 : decode cX3_give 37 = .ok (.iconst 1, 1) := by decide +kernel
theorem dX3_give_38 : decode cX3_give 38 = .ok (.iload_n 2, 1) := by decide +kernel
theorem dX3_give_39 : decode cX3_give 39 = .ok (.ishl, 1) := by decide +kernel
theorem dX3_give_40 : decode cX3_give 40 = .ok (.iconst (-1), 1) := by decide +kernel
theorem dX3_give_41 : decode cX3_give 41 = .ok (.ixor, 1) := by decide +kernel
theorem dX3_give_42 : decode cX3_give 42 = .ok (.iand, 1) := by decide +kernel
theorem dX3_give_43 : decode cX3_give 43 = .ok (.iastore, 1) := by decide +kernel
theorem dX3_give_44 : decode cX3_give 44 = .ok (.aload_n 0, 1) := by decide +kernel
theorem dX3_give_45 : decode cX3_give 45 = .ok (.getfield 24, 3) := by decide +kernel
theorem dX3_give_48 : decode cX3_give 48 = .ok (.iload_n 3, 1) := by decide +kernel
theorem dX3_give_49 : decode cX3_give 49 = .ok (.dup2, 1) := by decide +kernel
theorem dX3_give_50 : decode cX3_give 50 = .ok (.iaload, 1) := by decide +kernel
theorem dX3_give_51 : decode cX3_give 51 = .ok (.iconst 1, 1) := by decide +kernel
theorem dX3_give_52 : decode cX3_give 52 = .ok (.iload_n 2, 1) := by decide +kernel
theorem dX3_give_53 : decode cX3_give 53 = .ok (.ishl, 1) := by decide +kernel
theorem dX3_give_54 : decode cX3_give 54 = .ok (.ior, 1) := by decide +kernel
theorem dX3_give_55 : decode cX3_give 55 = .ok (.iastore, 1) := by decide +kernel
theorem dX3_give_56 : decode cX3_give 56 = .ok (.iconst 0, 1) := by decide +kernel
theorem dX3_give_57 : decode cX3_give 57 = .ok (.ireturn, 1) := by decide +kernel
set_option maxRecDepth 20000 in
theorem ggX3_liveYear_X3_drawnAct : GoodIn wsX3_liveYear wsX3_drawnAct := goodIn_r _ [5] (by decide +kernel) (by decide +kernel)
set_option maxRecDepth 20000 in
theorem gX3_liveYear_X3_drawnAct : GoodIn wsX3_liveYear (va_wsS RX3 96 yX3_drawnAct wsX3_drawnAct) := goodIn_app (goodIn_of _ (by decide +kernel)) ggX3_liveYear_X3_drawnAct
set_option maxRecDepth 20000 in
theorem ggX3_liveYear_X3_perform : GoodIn wsX3_liveYear wsX3_perform := goodIn_r _ [9, 10, 11, 12, 13, 14, 15, 16, 17, 18, 19, 20, 4, 21, 22, 23, 24, 25, 26, 27, 28, 29, 30, 31, 32, 33, 34, 35, 36, 37, 38, 39, 40, 41, 42, 43, 44, 45, 46, 47, 48, 49, 50, 51, 52, 53] (by decide +kernel) (by decide +kernel)
set_option maxRecDepth 20000 in
theorem gX3_liveYear_X3_perform : GoodIn wsX3_liveYear (wsV RX3 99 RX3 yX3_perform wsX3_perform) := goodIn_app (goodIn_of _ (by decide +kernel)) ggX3_liveYear_X3_perform
theorem dX3_liveYear_0 : decode cX3_liveYear 0 = .ok (.iload_n 1, 1) := by decide +kernel
theorem dX3_liveYear_1 : decode cX3_liveYear 1 = .ok (.istore_n 3, 1) := by decide +kernel
theorem dX3_liveYear_2 : decode cX3_liveYear 2 = .ok (.iconst 0, 1) := by decide +kernel
theorem dX3_liveYear_3 : decode cX3_liveYear 3 = .ok (.istore 4, 2) := by decide +kernel
theorem dX3_liveYear_5 : decode cX3_liveYear 5 = .ok (.iload 4, 2) := by decide +kernel
theorem dX3_liveYear_7 : decode cX3_liveYear 7 = .ok (.iload_n 2, 1) := by decide +kernel
theorem dX3_liveYear_8 : decode cX3_liveYear 8 = .ok (.if_icmp .ge 51, 3) := by decide +kernel
theorem dX3_liveYear_11 : decode cX3_liveYear 11 = .ok (.bipush 75, 2) := by decide +kernel
theorem dX3_liveYear_13 : decode cX3_liveYear 13 = .ok (.iload_n 3, 1) := by decide +kernel
theorem dX3_liveYear_14 : decode cX3_liveYear 14 = .ok (.imul, 1) := by decide +kernel
theorem dX3_liveYear_15 : decode cX3_liveYear 15 = .ok (.bipush 74, 2) := by decide +kernel
theorem dX3_liveYear_17 : decode cX3_liveYear 17 = .ok (.iadd, 1) := by decide +kernel
theorem dX3_liveYear_18 : decode cX3_liveYear 18 = .ok (.ldc 95, 2) := by decide +kernel
theorem dX3_liveYear_20 : decode cX3_liveYear 20 = .ok (.irem, 1) := by decide +kernel
theorem dX3_liveYear_21 : decode cX3_liveYear 21 = .ok (.istore_n 3, 1) := by decide +kernel
theorem dX3_liveYear_22 : decode cX3_liveYear 22 = .ok (.aload_n 0, 1) := by decide +kernel
theorem dX3_liveYear_23 : decode cX3_liveYear 23 = .ok (.iload_n 3, 1) := by decide +kernel
theorem dX3_liveYear_24 : decode cX3_liveYear 24 = .ok (.bipush 48, 2) := by decide +kernel
theorem dX3_liveYear_26 : decode cX3_liveYear 26 = .ok (.idiv, 1) := by decide +kernel
theorem dX3_liveYear_27 : decode cX3_liveYear 27 = .ok (.bipush 6, 2) := by decide +kernel
theorem dX3_liveYear_29 : decode cX3_liveYear 29 = .ok (.irem, 1) := by decide +kernel
theorem dX3_liveYear_30 : decode cX3_liveYear 30 = .ok (.invokestatic 96, 3) := by decide +kernel
theorem dX3_liveYear_33 : decode cX3_liveYear 33 = .ok (.iload_n 3, 1) := by decide +kernel
theorem dX3_liveYear_34 : decode cX3_liveYear 34 = .ok (.iconst 4, 1) := by decide +kernel
theorem dX3_liveYear_35 : decode cX3_liveYear 35 = .ok (.irem, 1) := by decide +kernel
theorem dX3_liveYear_36 : decode cX3_liveYear 36 = .ok (.iload_n 3, 1) := by decide +kernel
theorem dX3_liveYear_37 : decode cX3_liveYear 37 = .ok (.iconst 4, 1) := by decide +kernel
theorem dX3_liveYear_38 : decode cX3_liveYear 38 = .ok (.idiv, 1) := by decide +kernel
theorem dX3_liveYear_39 : decode cX3_liveYear 39 = .ok (.bipush 12, 2) := by decide +kernel
theorem dX3_liveYear_41 : decode cX3_liveYear 41 = .ok (.irem, 1) := by decide +kernel
theorem dX3_liveYear_42 : decode cX3_liveYear 42 = .ok (.iload_n 3, 1) := by decide +kernel
theorem dX3_liveYear_43 : decode cX3_liveYear 43 = .ok (.sipush 288, 3) := by decide +kernel
theorem dX3_liveYear_46 : decode cX3_liveYear 46 = .ok (.idiv, 1) := by decide +kernel
theorem dX3_liveYear_47 : decode cX3_liveYear 47 = .ok (.iconst 4, 1) := by decide +kernel
theorem dX3_liveYear_48 : decode cX3_liveYear 48 = .ok (.irem, 1) := by decide +kernel
theorem dX3_liveYear_49 : decode cX3_liveYear 49 = .ok (.invokevirtual 99, 3) := by decide +kernel
theorem dX3_liveYear_52 : decode cX3_liveYear 52 = .ok (.pop, 1) := by decide +kernel
theorem dX3_liveYear_53 : decode cX3_liveYear 53 = .ok (.iinc 4 1, 3) := by decide +kernel
theorem dX3_liveYear_56 : decode cX3_liveYear 56 = .ok (.goto (-51), 3) := by decide +kernel
theorem dX3_liveYear_59 : decode cX3_liveYear 59 = .ok (.return_, 1) := by decide +kernel
theorem dX3_drawnAct_0 : decode cX3_drawnAct 0 = .ok (.iload_n 0, 1) := by decide +kernel
theorem dX3_drawnAct_1 : decode cX3_drawnAct 1 = .ok (.iconst 1, 1) := by decide +kernel
theorem dX3_drawnAct_2 : decode cX3_drawnAct 2 = .ok (.if_icmp .gt 5, 3) := by decide +kernel
theorem dX3_drawnAct_5 : decode cX3_drawnAct 5 = .ok (.iconst 0, 1) := by decide +kernel
theorem dX3_drawnAct_6 : decode cX3_drawnAct 6 = .ok (.ireturn, 1) := by decide +kernel
theorem dX3_drawnAct_7 : decode cX3_drawnAct 7 = .ok (.iload_n 0, 1) := by decide +kernel
theorem dX3_drawnAct_8 : decode cX3_drawnAct 8 = .ok (.iconst 3, 1) := by decide +kernel
theorem dX3_drawnAct_9 : decode cX3_drawnAct 9 = .ok (.if_icmp .gt 5, 3) := by decide +kernel
theorem dX3_drawnAct_12 : decode cX3_drawnAct 12 = .ok (.iconst 2, 1) := by decide +kernel
theorem dX3_drawnAct_13 : decode cX3_drawnAct 13 = .ok (.ireturn, 1) := by decide +kernel
theorem dX3_drawnAct_14 : decode cX3_drawnAct 14 = .ok (.iload_n 0, 1) := by decide +kernel
theorem dX3_drawnAct_15 : decode cX3_drawnAct 15 = .ok (.iconst 4, 1) := by decide +kernel
theorem dX3_drawnAct_16 : decode cX3_drawnAct 16 = .ok (.if_icmp .ne 7, 3) := by decide +kernel
theorem dX3_drawnAct_19 : decode cX3_drawnAct 19 = .ok (.iconst 1, 1) := by decide +kernel
theorem dX3_drawnAct_20 : decode cX3_drawnAct 20 = .ok (.goto 4, 3) := by decide +kernel
theorem dX3_drawnAct_23 : decode cX3_drawnAct 23 = .ok (.iconst 3, 1) := by decide +kernel
theorem dX3_drawnAct_24 : decode cX3_drawnAct 24 = .ok (.ireturn, 1) := by decide +kernel
set_option maxRecDepth 20000 in
theorem ggX4_init_X3_init : GoodIn wsX4_init wsX3_init := goodIn_r _ [20, 21, 2, 3, 10, 22, 23, 24, 25, 26, 27, 28, 29, 30, 31, 32, 67, 68, 69, 70, 71, 72, 73, 74, 75, 76, 77] (by decide +kernel) (by decide +kernel)
set_option maxRecDepth 20000 in
theorem gX4_init_X3_init_n9 : GoodIn wsX4_init (wsX3_init) := ggX4_init_X3_init
set_option maxRecDepth 20000 in
theorem ggX4_init_X1_init : GoodIn wsX4_init wsX1_init := goodIn_r _ [34, 35, 2, 3, 36, 5, 6, 37, 38, 39, 40, 41, 42, 43, 44, 45, 46, 47, 48, 49, 50, 51, 52, 53, 19, 20, 21, 10, 22, 23, 24, 25, 26, 27, 28, 29, 30, 31, 32, 54, 55, 56, 57, 58, 59, 60, 61, 62, 63, 64, 65, 66, 67, 68, 69, 70, 71, 72, 73, 74, 75, 76, 77, 85, 86, 87, 88, 89, 90, 91, 92, 93, 94, 95, 96, 97, 98, 99, 100, 101, 102] (by decide +kernel) (by decide +kernel)
set_option maxRecDepth 20000 in
theorem gX4_init_X1_init_n33 : GoodIn wsX4_init (wsX1_init) := ggX4_init_X1_init
theorem dX4_init_0 : decode cX4_init 0 = .ok (.aload_n 0, 1) := by decide +kernel
theorem dX4_init_1 : decode cX4_init 1 = .ok (.invokespecial 1, 3) := by decide +kernel
theorem dX4_init_4 : decode cX4_init 4 = .ok (.aload_n 0, 1) := by decide +kernel
theorem dX4_init_5 : decode cX4_init 5 = .ok (.new 7, 3) := by decide +kernel
theorem dX4_init_8 : decode cX4_init 8 = .ok (.dup, 1) := by decide +kernel
theorem dX4_init_9 : decode cX4_init 9 = .ok (.invokespecial 9, 3) := by decide +kernel
theorem dX4_init_12 : decode cX4_init 12 = .ok (.putfield 10, 3) := by decide +kernel
theorem dX4_init_15 : decode cX4_init 15 = .ok (.aload_n 0, 1) := by decide +kernel
theorem dX4_init_16 : decode cX4_init 16 = .ok (.new 7, 3) := by decide +kernel
theorem dX4_init_19 : decode cX4_init 19 = .ok (.dup, 1) := by decide +kernel
theorem dX4_init_20 : decode cX4_init 20 = .ok (.invokespecial 9, 3) := by decide +kernel
theorem dX4_init_23 : decode cX4_init 23 = .ok (.putfield 16, 3) := by decide +kernel
theorem dX4_init_26 : decode cX4_init 26 = .ok (.aload_n 0, 1) := by decide +kernel
theorem dX4_init_27 : decode cX4_init 27 = .ok (.iconst 2, 1) := by decide +kernel
theorem dX4_init_28 : decode cX4_init 28 = .ok (.anewarray 7, 3) := by decide +kernel
theorem dX4_init_31 : decode cX4_init 31 = .ok (.putfield 19, 3) := by decide +kernel
theorem dX4_init_34 : decode cX4_init 34 = .ok (.aload_n 0, 1) := by decide +kernel
theorem dX4_init_35 : decode cX4_init 35 = .ok (.bipush 60, 2) := by decide +kernel
theorem dX4_init_37 : decode cX4_init 37 = .ok (.newarray .int, 2) := by decide +kernel
theorem dX4_init_39 : decode cX4_init 39 = .ok (.putfield 23, 3) := by decide +kernel
theorem dX4_init_42 : decode cX4_init 42 = .ok (.aload_n 0, 1) := by decide +kernel
theorem dX4_init_43 : decode cX4_init 43 = .ok (.iconst 0, 1) := by decide +kernel
theorem dX4_init_44 : decode cX4_init 44 = .ok (.putfield 27, 3) := by decide +kernel
theorem dX4_init_47 : decode cX4_init 47 = .ok (.aload_n 0, 1) := by decide +kernel
theorem dX4_init_48 : decode cX4_init 48 = .ok (.new 31, 3) := by decide +kernel
theorem dX4_init_51 : decode cX4_init 51 = .ok (.dup, 1) := by decide +kernel
theorem dX4_init_52 : decode cX4_init 52 = .ok (.invokespecial 33, 3) := by decide +kernel
theorem dX4_init_55 : decode cX4_init 55 = .ok (.putfield 34, 3) := by decide +kernel
theorem dX4_init_58 : decode cX4_init 58 = .ok (.aload_n 0, 1) := by decide +kernel
theorem dX4_init_59 : decode cX4_init 59 = .ok (.bipush 49, 2) := by decide +kernel
theorem dX4_init_61 : decode cX4_init 61 = .ok (.newarray .long, 2) := by decide +kernel
theorem dX4_init_63 : decode cX4_init 63 = .ok (.putfield 38, 3) := by decide +kernel
theorem dX4_init_66 : decode cX4_init 66 = .ok (.return_, 1) := by decide +kernel
set_option maxRecDepth 20000 in
theorem ggX4_word_X4_isWord : GoodIn wsX4_word wsX4_isWord := goodIn_r _ [5, 6, 7, 4, 8] (by decide +kernel) (by decide +kernel)
set_option maxRecDepth 20000 in
theorem gX4_word_X4_isWord : GoodIn wsX4_word (va_wsS RX4 42 yX4_isWord wsX4_isWord) := goodIn_app (goodIn_of _ (by decide +kernel)) ggX4_word_X4_isWord
set_option maxRecDepth 20000 in
theorem ggX4_word_X4_isWithin : GoodIn wsX4_word wsX4_isWithin := goodIn_r _ [8] (by decide +kernel) (by decide +kernel)
set_option maxRecDepth 20000 in
theorem gX4_word_X4_isWithin : GoodIn wsX4_word (va_wsS RX4 46 yX4_isWithin wsX4_isWithin) := goodIn_app (goodIn_of _ (by decide +kernel)) ggX4_word_X4_isWithin
theorem dX4_word_0 : decode cX4_word 0 = .ok (.iload_n 1, 1) := by decide +kernel
theorem dX4_word_1 : decode cX4_word 1 = .ok (.invokestatic 42, 3) := by decide +kernel
theorem dX4_word_4 : decode cX4_word 4 = .ok (.ifCond .ne 5, 3) := by decide +kernel
theorem dX4_word_7 : decode cX4_word 7 = .ok (.iconst (-1), 1) := by decide +kernel
theorem dX4_word_8 : decode cX4_word 8 = .ok (.ireturn, 1) := by decide +kernel
theorem dX4_word_9 : decode cX4_word 9 = .ok (.iload_n 2, 1) := by decide +kernel
theorem dX4_word_10 : decode cX4_word 10 = .ok (.iconst 0, 1) := by decide +kernel
theorem dX4_word_11 : decode cX4_word 11 = .ok (.bipush 99, 2) := by decide +kernel
theorem dX4_word_13 : decode cX4_word 13 = .ok (.invokestatic 46, 3) := by decide +kernel
theorem dX4_word_16 : decode cX4_word 16 = .ok (.ifCond .eq 12, 3) := by decide +kernel
theorem dX4_word_19 : decode cX4_word 19 = .ok (.iload_n 3, 1) := by decide +kernel
theorem dX4_word_20 : decode cX4_word 20 = .ok (.iconst 0, 1) := by decide +kernel
theorem dX4_word_21 : decode cX4_word 21 = .ok (.iconst 2, 1) := by decide +kernel
theorem dX4_word_22 : decode cX4_word 22 = .ok (.invokestatic 46, 3) := by decide +kernel
theorem dX4_word_25 : decode cX4_word 25 = .ok (.ifCond .ne 6, 3) := by decide +kernel
theorem dX4_word_28 : decode cX4_word 28 = .ok (.bipush (-2), 2) := by decide +kernel
theorem dX4_word_30 : decode cX4_word 30 = .ok (.ireturn, 1) := by decide +kernel
theorem dX4_word_31 : decode cX4_word 31 = .ok (.aload_n 0, 1) := by decide +kernel
theorem dX4_word_32 : decode cX4_word 32 = .ok (.getfield 10, 3) := by decide +kernel
theorem dX4_word_35 : decode cX4_word 35 = .ok (.getfield 50, 3) := by decide +kernel
theorem dX4_word_38 : decode cX4_word 38 = .ok (.iload_n 1, 1) := by decide +kernel
theorem dX4_word_39 : decode cX4_word 39 = .ok (.iaload, 1) := by decide +kernel
theorem dX4_word_40 : decode cX4_word 40 = .ok (.istore 4, 2) := by decide +kernel
theorem dX4_word_42 : decode cX4_word 42 = .ok (.aload_n 0, 1) := by decide +kernel
theorem dX4_word_43 : decode cX4_word 43 = .ok (.getfield 10, 3) := by decide +kernel
theorem dX4_word_46 : decode cX4_word 46 = .ok (.getfield 50, 3) := by decide +kernel
theorem dX4_word_49 : decode cX4_word 49 = .ok (.iload_n 1, 1) := by decide +kernel
theorem dX4_word_50 : decode cX4_word 50 = .ok (.iload_n 2, 1) := by decide +kernel
theorem dX4_word_51 : decode cX4_word 51 = .ok (.iastore, 1) := by decide +kernel
theorem dX4_word_52 : decode cX4_word 52 = .ok (.aload_n 0, 1) := by decide +kernel
theorem dX4_word_53 : decode cX4_word 53 = .ok (.getfield 10, 3) := by decide +kernel
theorem dX4_word_56 : decode cX4_word 56 = .ok (.getfield 53, 3) := by decide +kernel
theorem dX4_word_59 : decode cX4_word 59 = .ok (.iload_n 1, 1) := by decide +kernel
theorem dX4_word_60 : decode cX4_word 60 = .ok (.iload_n 3, 1) := by decide +kernel
theorem dX4_word_61 : decode cX4_word 61 = .ok (.iastore, 1) := by decide +kernel
theorem dX4_word_62 : decode cX4_word 62 = .ok (.iload 4, 2) := by decide +kernel
theorem dX4_word_64 : decode cX4_word 64 = .ok (.ireturn, 1) := by decide +kernel
set_option maxRecDepth 20000 in
theorem ggX4_rhyme_X4_isWord : GoodIn wsX4_rhyme wsX4_isWord := goodIn_r _ [5, 6, 7, 4, 8] (by decide +kernel) (by decide +kernel)
set_option maxRecDepth 20000 in
theorem gX4_rhyme_X4_isWord : GoodIn wsX4_rhyme (va_wsS RX4 42 yX4_isWord wsX4_isWord) := goodIn_app (goodIn_of _ (by decide +kernel)) ggX4_rhyme_X4_isWord
set_option maxRecDepth 20000 in
theorem ggX4_rhyme_X3_joinRhymes : GoodIn wsX4_rhyme wsX3_joinRhymes := goodIn_r _ [12, 13, 3, 4, 5, 6, 7, 8, 14, 15, 30, 31, 32, 33, 34, 35, 36, 37, 38, 39, 40] (by decide +kernel) (by decide +kernel)
set_option maxRecDepth 20000 in
theorem gX4_rhyme_X3_joinRhymes_n56 : GoodIn wsX4_rhyme (wsX3_joinRhymes) := ggX4_rhyme_X3_joinRhymes
set_option maxRecDepth 20000 in
theorem ggX4_rhyme_J6_bitCount_0f7a4 : GoodIn wsX4_rhyme wsJ6_bitCount_0f7a4 := goodIn_r _ [19, 20, 21, 22] (by decide +kernel) (by decide +kernel)
set_option maxRecDepth 20000 in
theorem gX4_rhyme_J6_bitCount_0f7a4 : GoodIn wsX4_rhyme (va_wsS RX4 63 yJ6_bitCount_0f7a4 wsJ6_bitCount_0f7a4) := goodIn_app (goodIn_of _ (by decide +kernel)) ggX4_rhyme_J6_bitCount_0f7a4
theorem dX4_rhyme_0 : decode cX4_rhyme 0 = .ok (.iload_n 1, 1) := by decide +kernel
theorem dX4_rhyme_1 : decode cX4_rhyme 1 = .ok (.invokestatic 42, 3) := by decide +kernel
theorem dX4_rhyme_4 : decode cX4_rhyme 4 = .ok (.ifCond .eq 15, 3) := by decide +kernel
theorem dX4_rhyme_7 : decode cX4_rhyme 7 = .ok (.iload_n 2, 1) := by decide +kernel
theorem dX4_rhyme_8 : decode cX4_rhyme 8 = .ok (.invokestatic 42, 3) := by decide +kernel
theorem dX4_rhyme_11 : decode cX4_rhyme 11 = .ok (.ifCond .eq 8, 3) := by decide +kernel
theorem dX4_rhyme_14 : decode cX4_rhyme 14 = .ok (.iload_n 1, 1) := by decide +kernel
theorem dX4_rhyme_15 : decode cX4_rhyme 15 = .ok (.iload_n 2, 1) := by decide +kernel
theorem dX4_rhyme_16 : decode cX4_rhyme 16 = .ok (.if_icmp .ne 5, 3) := by decide +kernel
theorem dX4_rhyme_19 : decode cX4_rhyme 19 = .ok (.iconst (-1), 1) := by decide +kernel
theorem dX4_rhyme_20 : decode cX4_rhyme 20 = .ok (.ireturn, 1) := by decide +kernel
theorem dX4_rhyme_21 : decode cX4_rhyme 21 = .ok (.aload_n 0, 1) := by decide +kernel
theorem dX4_rhyme_22 : decode cX4_rhyme 22 = .ok (.getfield 10, 3) := by decide +kernel
theorem dX4_rhyme_25 : decode cX4_rhyme 25 = .ok (.iload_n 1, 1) := by decide +kernel
theorem dX4_rhyme_26 : decode cX4_rhyme 26 = .ok (.iload_n 2, 1) := by decide +kernel
theorem dX4_rhyme_27 : decode cX4_rhyme 27 = .ok (.invokevirtual 56, 3) := by decide +kernel
theorem dX4_rhyme_30 : decode cX4_rhyme 30 = .ok (.aload_n 0, 1) := by decide +kernel
theorem dX4_rhyme_31 : decode cX4_rhyme 31 = .ok (.getfield 10, 3) := by decide +kernel
theorem dX4_rhyme_34 : decode cX4_rhyme 34 = .ok (.getfield 60, 3) := by decide +kernel
theorem dX4_rhyme_37 : decode cX4_rhyme 37 = .ok (.iload_n 1, 1) := by decide +kernel
theorem dX4_rhyme_38 : decode cX4_rhyme 38 = .ok (.iaload, 1) := by decide +kernel
theorem dX4_rhyme_39 : decode cX4_rhyme 39 = .ok (.invokestatic 63, 3) := by decide +kernel
theorem dX4_rhyme_42 : decode cX4_rhyme 42 = .ok (.iconst 1, 1) := by decide +kernel
theorem dX4_rhyme_43 : decode cX4_rhyme 43 = .ok (.isub, 1) := by decide +kernel
theorem dX4_rhyme_44 : decode cX4_rhyme 44 = .ok (.ireturn, 1) := by decide +kernel
set_option maxRecDepth 20000 in
theorem ggX4_part_X4_isWord : GoodIn wsX4_part wsX4_isWord := goodIn_r _ [5, 6, 7, 4, 8] (by decide +kernel) (by decide +kernel)
set_option maxRecDepth 20000 in
theorem gX4_part_X4_isWord : GoodIn wsX4_part (va_wsS RX4 42 yX4_isWord wsX4_isWord) := goodIn_app (goodIn_of _ (by decide +kernel)) ggX4_part_X4_isWord
set_option maxRecDepth 20000 in
theorem ggX4_part_J6_bitCount_0f7a4 : GoodIn wsX4_part wsJ6_bitCount_0f7a4 := goodIn_r _ [12, 13, 14, 15] (by decide +kernel) (by decide +kernel)
set_option maxRecDepth 20000 in
theorem gX4_part_J6_bitCount_0f7a4 : GoodIn wsX4_part (va_wsS RX4 63 yJ6_bitCount_0f7a4 wsJ6_bitCount_0f7a4) := goodIn_app (goodIn_of _ (by decide +kernel)) ggX4_part_J6_bitCount_0f7a4
set_option maxRecDepth 20000 in
theorem ggX4_part_X3_leaveRhymes : GoodIn wsX4_part wsX3_leaveRhymes := goodIn_r _ [19, 20, 3, 4, 5, 6, 7, 8, 28, 29, 30, 31, 32, 33, 34, 35, 36, 37, 38] (by decide +kernel) (by decide +kernel)
set_option maxRecDepth 20000 in
theorem gX4_part_X3_leaveRhymes_n69 : GoodIn wsX4_part (wsX3_leaveRhymes) := ggX4_part_X3_leaveRhymes
theorem dX4_part_0 : decode cX4_part 0 = .ok (.iload_n 1, 1) := by decide +kernel
theorem dX4_part_1 : decode cX4_part 1 = .ok (.invokestatic 42, 3) := by decide +kernel
theorem dX4_part_4 : decode cX4_part 4 = .ok (.ifCond .ne 5, 3) := by decide +kernel
theorem dX4_part_7 : decode cX4_part 7 = .ok (.iconst (-1), 1) := by decide +kernel
theorem dX4_part_8 : decode cX4_part 8 = .ok (.ireturn, 1) := by decide +kernel
theorem dX4_part_9 : decode cX4_part 9 = .ok (.aload_n 0, 1) := by decide +kernel
theorem dX4_part_10 : decode cX4_part 10 = .ok (.getfield 10, 3) := by decide +kernel
theorem dX4_part_13 : decode cX4_part 13 = .ok (.getfield 60, 3) := by decide +kernel
theorem dX4_part_16 : decode cX4_part 16 = .ok (.iload_n 1, 1) := by decide +kernel
theorem dX4_part_17 : decode cX4_part 17 = .ok (.iaload, 1) := by decide +kernel
theorem dX4_part_18 : decode cX4_part 18 = .ok (.invokestatic 63, 3) := by decide +kernel
theorem dX4_part_21 : decode cX4_part 21 = .ok (.iconst 1, 1) := by decide +kernel
theorem dX4_part_22 : decode cX4_part 22 = .ok (.isub, 1) := by decide +kernel
theorem dX4_part_23 : decode cX4_part 23 = .ok (.istore_n 2, 1) := by decide +kernel
theorem dX4_part_24 : decode cX4_part 24 = .ok (.aload_n 0, 1) := by decide +kernel
theorem dX4_part_25 : decode cX4_part 25 = .ok (.getfield 10, 3) := by decide +kernel
theorem dX4_part_28 : decode cX4_part 28 = .ok (.iload_n 1, 1) := by decide +kernel
theorem dX4_part_29 : decode cX4_part 29 = .ok (.invokevirtual 69, 3) := by decide +kernel
theorem dX4_part_32 : decode cX4_part 32 = .ok (.iload_n 2, 1) := by decide +kernel
theorem dX4_part_33 : decode cX4_part 33 = .ok (.ireturn, 1) := by decide +kernel
set_option maxRecDepth 20000 in
theorem ggX4_speaker_X4_isSpeaker : GoodIn wsX4_speaker wsX4_isSpeaker := goodIn_r _ [5, 6, 7, 4, 8] (by decide +kernel) (by decide +kernel)
set_option maxRecDepth 20000 in
theorem gX4_speaker_X4_isSpeaker : GoodIn wsX4_speaker (va_wsS RX4 73 yX4_isSpeaker wsX4_isSpeaker) := goodIn_app (goodIn_of _ (by decide +kernel)) ggX4_speaker_X4_isSpeaker
set_option maxRecDepth 20000 in
theorem ggX4_speaker_X4_isWithin : GoodIn wsX4_speaker wsX4_isWithin := goodIn_r _ [8] (by decide +kernel) (by decide +kernel)
set_option maxRecDepth 20000 in
theorem gX4_speaker_X4_isWithin : GoodIn wsX4_speaker (va_wsS RX4 46 yX4_isWithin wsX4_isWithin) := goodIn_app (goodIn_of _ (by decide +kernel)) ggX4_speaker_X4_isWithin
set_option maxRecDepth 20000 in
theorem ggX4_speaker_X4_isSet : GoodIn wsX4_speaker wsX4_isSet := goodIn_r _ [11, 6, 7, 4, 8] (by decide +kernel) (by decide +kernel)
set_option maxRecDepth 20000 in
theorem gX4_speaker_X4_isSet : GoodIn wsX4_speaker (va_wsS RX4 76 yX4_isSet wsX4_isSet) := goodIn_app (goodIn_of _ (by decide +kernel)) ggX4_speaker_X4_isSet
theorem dX4_speaker_0 : decode cX4_speaker 0 = .ok (.iload_n 1, 1) := by decide +kernel
theorem dX4_speaker_1 : decode cX4_speaker 1 = .ok (.invokestatic 73, 3) := by decide +kernel
theorem dX4_speaker_4 : decode cX4_speaker 4 = .ok (.ifCond .ne 5, 3) := by decide +kernel
theorem dX4_speaker_7 : decode cX4_speaker 7 = .ok (.iconst (-1), 1) := by decide +kernel
theorem dX4_speaker_8 : decode cX4_speaker 8 = .ok (.ireturn, 1) := by decide +kernel
theorem dX4_speaker_9 : decode cX4_speaker 9 = .ok (.iload_n 2, 1) := by decide +kernel
theorem dX4_speaker_10 : decode cX4_speaker 10 = .ok (.iconst 0, 1) := by decide +kernel
theorem dX4_speaker_11 : decode cX4_speaker 11 = .ok (.sipush 999, 3) := by decide +kernel
theorem dX4_speaker_14 : decode cX4_speaker 14 = .ok (.invokestatic 46, 3) := by decide +kernel
theorem dX4_speaker_17 : decode cX4_speaker 17 = .ok (.ifCond .eq 10, 3) := by decide +kernel
theorem dX4_speaker_20 : decode cX4_speaker 20 = .ok (.iload_n 3, 1) := by decide +kernel
theorem dX4_speaker_21 : decode cX4_speaker 21 = .ok (.invokestatic 76, 3) := by decide +kernel
theorem dX4_speaker_24 : decode cX4_speaker 24 = .ok (.ifCond .ne 6, 3) := by decide +kernel
theorem dX4_speaker_27 : decode cX4_speaker 27 = .ok (.bipush (-2), 2) := by decide +kernel
theorem dX4_speaker_29 : decode cX4_speaker 29 = .ok (.ireturn, 1) := by decide +kernel
theorem dX4_speaker_30 : decode cX4_speaker 30 = .ok (.aload_n 0, 1) := by decide +kernel
theorem dX4_speaker_31 : decode cX4_speaker 31 = .ok (.getfield 10, 3) := by decide +kernel
theorem dX4_speaker_34 : decode cX4_speaker 34 = .ok (.getfield 79, 3) := by decide +kernel
theorem dX4_speaker_37 : decode cX4_speaker 37 = .ok (.iload_n 1, 1) := by decide +kernel
theorem dX4_speaker_38 : decode cX4_speaker 38 = .ok (.iaload, 1) := by decide +kernel
theorem dX4_speaker_39 : decode cX4_speaker 39 = .ok (.istore 4, 2) := by decide +kernel
theorem dX4_speaker_41 : decode cX4_speaker 41 = .ok (.aload_n 0, 1) := by decide +kernel
theorem dX4_speaker_42 : decode cX4_speaker 42 = .ok (.getfield 10, 3) := by decide +kernel
theorem dX4_speaker_45 : decode cX4_speaker 45 = .ok (.getfield 79, 3) := by decide +kernel
theorem dX4_speaker_48 : decode cX4_speaker 48 = .ok (.iload_n 1, 1) := by decide +kernel
theorem dX4_speaker_49 : decode cX4_speaker 49 = .ok (.iload_n 2, 1) := by decide +kernel
theorem dX4_speaker_50 : decode cX4_speaker 50 = .ok (.iastore, 1) := by decide +kernel
theorem dX4_speaker_51 : decode cX4_speaker 51 = .ok (.aload_n 0, 1) := by decide +kernel
theorem dX4_speaker_52 : decode cX4_speaker 52 = .ok (.getfield 10, 3) := by decide +kernel
theorem dX4_speaker_55 : decode cX4_speaker 55 = .ok (.getfield 82, 3) := by decide +kernel
theorem dX4_speaker_58 : decode cX4_speaker 58 = .ok (.iload_n 1, 1) := by decide +kernel
theorem dX4_speaker_59 : decode cX4_speaker 59 = .ok (.iload_n 3, 1) := by decide +kernel
theorem dX4_speaker_60 : decode cX4_speaker 60 = .ok (.iastore, 1) := by decide +kernel
theorem dX4_speaker_61 : decode cX4_speaker 61 = .ok (.iload 4, 2) := by decide +kernel
theorem dX4_speaker_63 : decode cX4_speaker 63 = .ok (.ireturn, 1) := by decide +kernel
set_option maxRecDepth 20000 in
theorem ggX4_say_X4_isWithin : GoodIn wsX4_say wsX4_isWithin := goodIn_r _ [6] (by decide +kernel) (by decide +kernel)
set_option maxRecDepth 20000 in
theorem gX4_say_X4_isWithin : GoodIn wsX4_say (va_wsS RX4 46 yX4_isWithin wsX4_isWithin) := goodIn_app (goodIn_of _ (by decide +kernel)) ggX4_say_X4_isWithin
theorem dX4_say_0 : decode cX4_say 0 = .ok (.iload_n 1, 1) := by decide +kernel
theorem dX4_say_1 : decode cX4_say 1 = .ok (.bipush 33, 2) := by decide +kernel
theorem dX4_say_3 : decode cX4_say 3 = .ok (.bipush 126, 2) := by decide +kernel
theorem dX4_say_5 : decode cX4_say 5 = .ok (.invokestatic 46, 3) := by decide +kernel
theorem dX4_say_8 : decode cX4_say 8 = .ok (.ifCond .ne 6, 3) := by decide +kernel
theorem dX4_say_11 : decode cX4_say 11 = .ok (.bipush (-2), 2) := by decide +kernel
theorem dX4_say_13 : decode cX4_say 13 = .ok (.ireturn, 1) := by decide +kernel
theorem dX4_say_14 : decode cX4_say 14 = .ok (.aload_n 0, 1) := by decide +kernel
theorem dX4_say_15 : decode cX4_say 15 = .ok (.getfield 27, 3) := by decide +kernel
theorem dX4_say_18 : decode cX4_say 18 = .ok (.iconst 0, 1) := by decide +kernel
theorem dX4_say_19 : decode cX4_say 19 = .ok (.bipush 59, 2) := by decide +kernel
theorem dX4_say_21 : decode cX4_say 21 = .ok (.invokestatic 46, 3) := by decide +kernel
theorem dX4_say_24 : decode cX4_say 24 = .ok (.ifCond .ne 6, 3) := by decide +kernel
theorem dX4_say_27 : decode cX4_say 27 = .ok (.bipush (-4), 2) := by decide +kernel
theorem dX4_say_29 : decode cX4_say 29 = .ok (.ireturn, 1) := by decide +kernel
theorem dX4_say_30 : decode cX4_say 30 = .ok (.aload_n 0, 1) := by decide +kernel
theorem dX4_say_31 : decode cX4_say 31 = .ok (.getfield 23, 3) := by decide +kernel
theorem dX4_say_34 : decode cX4_say 34 = .ok (.aload_n 0, 1) := by decide +kernel
theorem dX4_say_35 : decode cX4_say 35 = .ok (.getfield 27, 3) := by decide +kernel
theorem dX4_say_38 : decode cX4_say 38 = .ok (.iload_n 1, 1) := by decide +kernel
theorem dX4_say_39 : decode cX4_say 39 = .ok (.iastore, 1) := by decide +kernel
theorem dX4_say_40 : decode cX4_say 40 = .ok (.aload_n 0, 1) := by decide +kernel
theorem dX4_say_41 : decode cX4_say 41 = .ok (.dup, 1) := by decide +kernel
theorem dX4_say_42 : decode cX4_say 42 = .ok (.getfield 27, 3) := by decide +kernel
theorem dX4_say_45 : decode cX4_say 45 = .ok (.iconst 1, 1) := by decide +kernel
theorem dX4_say_46 : decode cX4_say 46 = .ok (.iadd, 1) := by decide +kernel
theorem dX4_say_47 : decode cX4_say 47 = .ok (.putfield 27, 3) := by decide +kernel
theorem dX4_say_50 : decode cX4_say 50 = .ok (.aload_n 0, 1) := by decide +kernel
theorem dX4_say_51 : decode cX4_say 51 = .ok (.getfield 27, 3) := by decide +kernel
theorem dX4_say_54 : decode cX4_say 54 = .ok (.ireturn, 1) := by decide +kernel
theorem dX4_wipe_0 : decode cX4_wipe 0 = .ok (.aload_n 0, 1) := by decide +kernel
theorem dX4_wipe_1 : decode cX4_wipe 1 = .ok (.getfield 27, 3) := by decide +kernel
theorem dX4_wipe_4 : decode cX4_wipe 4 = .ok (.istore_n 1, 1) := by decide +kernel
theorem dX4_wipe_5 : decode cX4_wipe 5 = .ok (.aload_n 0, 1) := by decide +kernel
theorem dX4_wipe_6 : decode cX4_wipe 6 = .ok (.iconst 0, 1) := by decide +kernel
theorem dX4_wipe_7 : decode cX4_wipe 7 = .ok (.putfield 27, 3) := by decide +kernel
theorem dX4_wipe_10 : decode cX4_wipe 10 = .ok (.iload_n 1, 1) := by decide +kernel
theorem dX4_wipe_11 : decode cX4_wipe 11 = .ok (.ireturn, 1) := by decide +kernel
set_option maxRecDepth 20000 in
theorem ggX4_fault_X1_readAll : GoodIn wsX4_fault wsX1_readAll := goodIn_r _ [8, 9, 10, 11, 12, 13, 14, 6, 15, 16, 17, 18, 19, 20, 21, 22, 23, 24, 25, 26, 27, 28, 29, 30, 31, 32, 33, 34, 35, 36, 37, 38, 39, 40, 41, 42, 43, 44, 45, 46, 47, 48, 49, 50, 51, 52, 53, 54, 55, 56, 57, 58, 59, 60, 61, 62, 63, 64, 65, 66, 67, 68, 69, 70, 71, 72, 73, 74, 75, 76, 77, 78, 79, 80, 81, 82, 83, 84, 85, 86, 87, 88, 89, 90, 91, 92, 93, 94, 95, 96, 97, 98, 99, 100, 101, 102, 103, 104, 105, 106, 107, 108, 109, 110, 111, 112, 113, 114, 115, 116, 117, 118, 119, 120, 121, 122, 123, 124, 125, 126, 127, 128, 129, 130, 131, 132, 133, 134, 135, 136, 137, 138, 139, 140, 148, 149, 150, 151, 152, 153, 154, 155, 156, 157, 158, 159, 160, 161, 162, 163, 164, 165, 166, 167, 168, 169, 170, 171, 172, 173, 174, 175, 176] (by decide +kernel) (by decide +kernel)
set_option maxRecDepth 20000 in
theorem gX4_fault_X1_readAll_n85 : GoodIn wsX4_fault (wsX1_readAll) := ggX4_fault_X1_readAll
theorem dX4_fault_0 : decode cX4_fault 0 = .ok (.aload_n 0, 1) := by decide +kernel
theorem dX4_fault_1 : decode cX4_fault 1 = .ok (.getfield 34, 3) := by decide +kernel
theorem dX4_fault_4 : decode cX4_fault 4 = .ok (.aload_n 0, 1) := by decide +kernel
theorem dX4_fault_5 : decode cX4_fault 5 = .ok (.getfield 23, 3) := by decide +kernel
theorem dX4_fault_8 : decode cX4_fault 8 = .ok (.aload_n 0, 1) := by decide +kernel
theorem dX4_fault_9 : decode cX4_fault 9 = .ok (.getfield 27, 3) := by decide +kernel
theorem dX4_fault_12 : decode cX4_fault 12 = .ok (.aload_n 0, 1) := by decide +kernel
theorem dX4_fault_13 : decode cX4_fault 13 = .ok (.getfield 10, 3) := by decide +kernel
theorem dX4_fault_16 : decode cX4_fault 16 = .ok (.invokevirtual 85, 3) := by decide +kernel
theorem dX4_fault_19 : decode cX4_fault 19 = .ok (.bipush (-5), 2) := by decide +kernel
theorem dX4_fault_21 : decode cX4_fault 21 = .ok (.if_icmp .ne 13, 3) := by decide +kernel
theorem dX4_fault_24 : decode cX4_fault 24 = .ok (.aload_n 0, 1) := by decide +kernel
theorem dX4_fault_25 : decode cX4_fault 25 = .ok (.getfield 34, 3) := by decide +kernel
theorem dX4_fault_28 : decode cX4_fault 28 = .ok (.getfield 89, 3) := by decide +kernel
theorem dX4_fault_31 : decode cX4_fault 31 = .ok (.goto 5, 3) := by decide +kernel
theorem dX4_fault_34 : decode cX4_fault 34 = .ok (.bipush (-6), 2) := by decide +kernel
theorem dX4_fault_36 : decode cX4_fault 36 = .ok (.ireturn, 1) := by decide +kernel
set_option maxRecDepth 20000 in
theorem ggX4_judge_X4_isWithin : GoodIn wsX4_judge wsX4_isWithin := goodIn_r _ [8] (by decide +kernel) (by decide +kernel)
set_option maxRecDepth 20000 in
theorem gX4_judge_X4_isWithin : GoodIn wsX4_judge (va_wsS RX4 46 yX4_isWithin wsX4_isWithin) := goodIn_app (goodIn_of _ (by decide +kernel)) ggX4_judge_X4_isWithin
set_option maxRecDepth 20000 in
theorem ggX4_judge_X1_readAll : GoodIn wsX4_judge wsX1_readAll := goodIn_r _ [12, 13, 14, 15, 16, 17, 18, 10, 19, 20, 21, 22, 23, 24, 25, 26, 27, 28, 29, 30, 31, 32, 33, 34, 35, 36, 37, 38, 39, 40, 41, 42, 7, 43, 44, 45, 46, 47, 48, 49, 50, 51, 52, 53, 54, 55, 56, 57, 58, 59, 60, 61, 62, 63, 64, 65, 66, 67, 68, 69, 5, 6, 8, 70, 71, 72, 73, 74, 75, 76, 77, 78, 79, 80, 81, 82, 83, 84, 85, 86, 87, 88, 89, 90, 91, 92, 93, 94, 95, 96, 97, 98, 99, 100, 101, 102, 103, 104, 105, 106, 107, 108, 109, 110, 111, 112, 113, 114, 115, 116, 117, 118, 119, 120, 121, 122, 123, 124, 125, 126, 127, 128, 129, 130, 131, 132, 133, 134, 135, 136, 137, 138, 139, 140, 148, 149, 150, 151, 152, 153, 154, 155, 156, 157, 158, 159, 160, 161, 162, 163, 164, 165, 166, 167, 168, 169, 170, 171, 172, 173, 174, 175, 176] (by decide +kernel) (by decide +kernel)
set_option maxRecDepth 20000 in
theorem gX4_judge_X1_readAll_n85 : GoodIn wsX4_judge (wsX1_readAll) := ggX4_judge_X1_readAll
theorem dX4_judge_0 : decode cX4_judge 0 = .ok (.iload_n 1, 1) := by decide +kernel
theorem dX4_judge_1 : decode cX4_judge 1 = .ok (.iconst 0, 1) := by decide +kernel
theorem dX4_judge_2 : decode cX4_judge 2 = .ok (.iconst 2, 1) := by decide +kernel
theorem dX4_judge_3 : decode cX4_judge 3 = .ok (.invokestatic 46, 3) := by decide +kernel
theorem dX4_judge_6 : decode cX4_judge 6 = .ok (.ifCond .ne 6, 3) := by decide +kernel
theorem dX4_judge_9 : decode cX4_judge 9 = .ok (.bipush (-2), 2) := by decide +kernel
theorem dX4_judge_11 : decode cX4_judge 11 = .ok (.ireturn, 1) := by decide +kernel
theorem dX4_judge_12 : decode cX4_judge 12 = .ok (.aload_n 0, 1) := by decide +kernel
theorem dX4_judge_13 : decode cX4_judge 13 = .ok (.getfield 34, 3) := by decide +kernel
theorem dX4_judge_16 : decode cX4_judge 16 = .ok (.aload_n 0, 1) := by decide +kernel
theorem dX4_judge_17 : decode cX4_judge 17 = .ok (.getfield 23, 3) := by decide +kernel
theorem dX4_judge_20 : decode cX4_judge 20 = .ok (.aload_n 0, 1) := by decide +kernel
theorem dX4_judge_21 : decode cX4_judge 21 = .ok (.getfield 27, 3) := by decide +kernel
theorem dX4_judge_24 : decode cX4_judge 24 = .ok (.aload_n 0, 1) := by decide +kernel
theorem dX4_judge_25 : decode cX4_judge 25 = .ok (.getfield 10, 3) := by decide +kernel
theorem dX4_judge_28 : decode cX4_judge 28 = .ok (.invokevirtual 85, 3) := by decide +kernel
theorem dX4_judge_31 : decode cX4_judge 31 = .ok (.istore_n 2, 1) := by decide +kernel
theorem dX4_judge_32 : decode cX4_judge 32 = .ok (.iload_n 2, 1) := by decide +kernel
theorem dX4_judge_33 : decode cX4_judge 33 = .ok (.bipush (-5), 2) := by decide +kernel
theorem dX4_judge_35 : decode cX4_judge 35 = .ok (.if_icmp .ne 6, 3) := by decide +kernel
theorem dX4_judge_38 : decode cX4_judge 38 = .ok (.bipush (-5), 2) := by decide +kernel
theorem dX4_judge_40 : decode cX4_judge 40 = .ok (.ireturn, 1) := by decide +kernel
theorem dX4_judge_41 : decode cX4_judge 41 = .ok (.iload_n 1, 1) := by decide +kernel
theorem dX4_judge_42 : decode cX4_judge 42 = .ok (.iconst 2, 1) := by decide +kernel
theorem dX4_judge_43 : decode cX4_judge 43 = .ok (.if_icmp .ne 19, 3) := by decide +kernel
theorem dX4_judge_46 : decode cX4_judge 46 = .ok (.iload_n 2, 1) := by decide +kernel
theorem dX4_judge_47 : decode cX4_judge 47 = .ok (.ifCond .ne 13, 3) := by decide +kernel
theorem dX4_judge_50 : decode cX4_judge 50 = .ok (.aload_n 0, 1) := by decide +kernel
theorem dX4_judge_51 : decode cX4_judge 51 = .ok (.getfield 34, 3) := by decide +kernel
theorem dX4_judge_54 : decode cX4_judge 54 = .ok (.getfield 92, 3) := by decide +kernel
theorem dX4_judge_57 : decode cX4_judge 57 = .ok (.goto 4, 3) := by decide +kernel
theorem dX4_judge_60 : decode cX4_judge 60 = .ok (.iload_n 2, 1) := by decide +kernel
theorem dX4_judge_61 : decode cX4_judge 61 = .ok (.ireturn, 1) := by decide +kernel
theorem dX4_judge_62 : decode cX4_judge 62 = .ok (.iload_n 2, 1) := by decide +kernel
theorem dX4_judge_63 : decode cX4_judge 63 = .ok (.ifCond .ne 6, 3) := by decide +kernel
theorem dX4_judge_66 : decode cX4_judge 66 = .ok (.bipush (-6), 2) := by decide +kernel
theorem dX4_judge_68 : decode cX4_judge 68 = .ok (.ireturn, 1) := by decide +kernel
theorem dX4_judge_69 : decode cX4_judge 69 = .ok (.iload_n 1, 1) := by decide +kernel
theorem dX4_judge_70 : decode cX4_judge 70 = .ok (.ifCond .ne 13, 3) := by decide +kernel
theorem dX4_judge_73 : decode cX4_judge 73 = .ok (.aload_n 0, 1) := by decide +kernel
theorem dX4_judge_74 : decode cX4_judge 74 = .ok (.getfield 34, 3) := by decide +kernel
theorem dX4_judge_77 : decode cX4_judge 77 = .ok (.getfield 95, 3) := by decide +kernel
theorem dX4_judge_80 : decode cX4_judge 80 = .ok (.goto 10, 3) := by decide +kernel
theorem dX4_judge_83 : decode cX4_judge 83 = .ok (.aload_n 0, 1) := by decide +kernel
theorem dX4_judge_84 : decode cX4_judge 84 = .ok (.getfield 34, 3) := by decide +kernel
theorem dX4_judge_87 : decode cX4_judge 87 = .ok (.getfield 98, 3) := by decide +kernel
theorem dX4_judge_90 : decode cX4_judge 90 = .ok (.ireturn, 1) := by decide +kernel
set_option maxRecDepth 20000 in
theorem ggX4_behind_X4_isSpeaker : GoodIn wsX4_behind wsX4_isSpeaker := goodIn_r _ [8, 9, 10, 7, 11] (by decide +kernel) (by decide +kernel)
set_option maxRecDepth 20000 in
theorem gX4_behind_X4_isSpeaker : GoodIn wsX4_behind (va_wsS RX4 73 yX4_isSpeaker wsX4_isSpeaker) := goodIn_app (goodIn_of _ (by decide +kernel)) ggX4_behind_X4_isSpeaker
set_option maxRecDepth 20000 in
theorem ggX4_behind_X4_isWithin : GoodIn wsX4_behind wsX4_isWithin := goodIn_r _ [11] (by decide +kernel) (by decide +kernel)
set_option maxRecDepth 20000 in
theorem gX4_behind_X4_isWithin : GoodIn wsX4_behind (va_wsS RX4 46 yX4_isWithin wsX4_isWithin) := goodIn_app (goodIn_of _ (by decide +kernel)) ggX4_behind_X4_isWithin
set_option maxRecDepth 20000 in
theorem ggX4_behind_X1_readAll : GoodIn wsX4_behind wsX1_readAll := goodIn_r _ [15, 16, 17, 18, 19, 20, 21, 13, 22, 23, 24, 25, 26, 27, 28, 29, 30, 31, 32, 33, 34, 35, 36, 37, 38, 39, 40, 41, 42, 43, 44, 45, 7, 46, 47, 48, 49, 50, 51, 52, 53, 54, 55, 56, 57, 58, 59, 60, 61, 62, 63, 64, 65, 66, 67, 68, 69, 70, 6, 8, 9, 10, 11, 71, 72, 73, 74, 75, 76, 77, 78, 79, 80, 81, 82, 83, 84, 85, 86, 87, 88, 89, 90, 91, 92, 93, 94, 95, 96, 97, 98, 99, 100, 101, 102, 103, 104, 105, 106, 107, 108, 109, 110, 111, 112, 113, 114, 115, 116, 117, 118, 119, 120, 121, 122, 123, 124, 125, 126, 127, 128, 129, 130, 131, 132, 133, 134, 135, 136, 137, 138, 139, 140, 141, 149, 150, 151, 152, 153, 154, 155, 156, 157, 158, 159, 160, 161, 162, 163, 164, 165, 166, 167, 168, 169, 170, 171, 172, 173, 174, 175, 176, 177] (by decide +kernel) (by decide +kernel)
set_option maxRecDepth 20000 in
theorem gX4_behind_X1_readAll_n85 : GoodIn wsX4_behind (wsX1_readAll) := ggX4_behind_X1_readAll
theorem dX4_behind_0 : decode cX4_behind 0 = .ok (.iload_n 1, 1) := by decide +kernel
theorem dX4_behind_1 : decode cX4_behind 1 = .ok (.invokestatic 73, 3) := by decide +kernel
theorem dX4_behind_4 : decode cX4_behind 4 = .ok (.ifCond .ne 5, 3) := by decide +kernel
theorem dX4_behind_7 : decode cX4_behind 7 = .ok (.iconst (-1), 1) := by decide +kernel
theorem dX4_behind_8 : decode cX4_behind 8 = .ok (.ireturn, 1) := by decide +kernel
theorem dX4_behind_9 : decode cX4_behind 9 = .ok (.iload_n 2, 1) := by decide +kernel
theorem dX4_behind_10 : decode cX4_behind 10 = .ok (.iconst 0, 1) := by decide +kernel
theorem dX4_behind_11 : decode cX4_behind 11 = .ok (.iconst 1, 1) := by decide +kernel
theorem dX4_behind_12 : decode cX4_behind 12 = .ok (.invokestatic 46, 3) := by decide +kernel
theorem dX4_behind_15 : decode cX4_behind 15 = .ok (.ifCond .ne 6, 3) := by decide +kernel
theorem dX4_behind_18 : decode cX4_behind 18 = .ok (.bipush (-2), 2) := by decide +kernel
theorem dX4_behind_20 : decode cX4_behind 20 = .ok (.ireturn, 1) := by decide +kernel
theorem dX4_behind_21 : decode cX4_behind 21 = .ok (.aload_n 0, 1) := by decide +kernel
theorem dX4_behind_22 : decode cX4_behind 22 = .ok (.getfield 34, 3) := by decide +kernel
theorem dX4_behind_25 : decode cX4_behind 25 = .ok (.aload_n 0, 1) := by decide +kernel
theorem dX4_behind_26 : decode cX4_behind 26 = .ok (.getfield 23, 3) := by decide +kernel
theorem dX4_behind_29 : decode cX4_behind 29 = .ok (.aload_n 0, 1) := by decide +kernel
theorem dX4_behind_30 : decode cX4_behind 30 = .ok (.getfield 27, 3) := by decide +kernel
theorem dX4_behind_33 : decode cX4_behind 33 = .ok (.aload_n 0, 1) := by decide +kernel
theorem dX4_behind_34 : decode cX4_behind 34 = .ok (.getfield 10, 3) := by decide +kernel
theorem dX4_behind_37 : decode cX4_behind 37 = .ok (.invokevirtual 85, 3) := by decide +kernel
theorem dX4_behind_40 : decode cX4_behind 40 = .ok (.istore_n 3, 1) := by decide +kernel
theorem dX4_behind_41 : decode cX4_behind 41 = .ok (.iload_n 3, 1) := by decide +kernel
theorem dX4_behind_42 : decode cX4_behind 42 = .ok (.ifCond .eq 5, 3) := by decide +kernel
theorem dX4_behind_45 : decode cX4_behind 45 = .ok (.iload_n 3, 1) := by decide +kernel
theorem dX4_behind_46 : decode cX4_behind 46 = .ok (.ireturn, 1) := by decide +kernel
theorem dX4_behind_47 : decode cX4_behind 47 = .ok (.iload_n 2, 1) := by decide +kernel
theorem dX4_behind_48 : decode cX4_behind 48 = .ok (.ifCond .ne 18, 3) := by decide +kernel
theorem dX4_behind_51 : decode cX4_behind 51 = .ok (.aload_n 0, 1) := by decide +kernel
theorem dX4_behind_52 : decode cX4_behind 52 = .ok (.getfield 34, 3) := by decide +kernel
theorem dX4_behind_55 : decode cX4_behind 55 = .ok (.getfield 101, 3) := by decide +kernel
theorem dX4_behind_58 : decode cX4_behind 58 = .ok (.getfield 79, 3) := by decide +kernel
theorem dX4_behind_61 : decode cX4_behind 61 = .ok (.iload_n 1, 1) := by decide +kernel
theorem dX4_behind_62 : decode cX4_behind 62 = .ok (.iaload, 1) := by decide +kernel
theorem dX4_behind_63 : decode cX4_behind 63 = .ok (.goto 15, 3) := by decide +kernel
theorem dX4_behind_66 : decode cX4_behind 66 = .ok (.aload_n 0, 1) := by decide +kernel
theorem dX4_behind_67 : decode cX4_behind 67 = .ok (.getfield 34, 3) := by decide +kernel
theorem dX4_behind_70 : decode cX4_behind 70 = .ok (.getfield 101, 3) := by decide +kernel
theorem dX4_behind_73 : decode cX4_behind 73 = .ok (.getfield 82, 3) := by decide +kernel
theorem dX4_behind_76 : decode cX4_behind 76 = .ok (.iload_n 1, 1) := by decide +kernel
theorem dX4_behind_77 : decode cX4_behind 77 = .ok (.iaload, 1) := by decide +kernel
theorem dX4_behind_78 : decode cX4_behind 78 = .ok (.ireturn, 1) := by decide +kernel
set_option maxRecDepth 20000 in
theorem ggX4_worn_X4_isWord : GoodIn wsX4_worn wsX4_isWord := goodIn_r _ [8, 9, 10, 7, 11] (by decide +kernel) (by decide +kernel)
set_option maxRecDepth 20000 in
theorem gX4_worn_X4_isWord : GoodIn wsX4_worn (va_wsS RX4 42 yX4_isWord wsX4_isWord) := goodIn_app (goodIn_of _ (by decide +kernel)) ggX4_worn_X4_isWord
set_option maxRecDepth 20000 in
theorem ggX4_worn_X1_readAll : GoodIn wsX4_worn wsX1_readAll := goodIn_r _ [15, 16, 17, 18, 19, 20, 21, 13, 22, 23, 24, 25, 26, 27, 28, 29, 30, 31, 32, 33, 34, 35, 36, 37, 38, 39, 40, 41, 42, 43, 44, 45, 7, 46, 47, 48, 49, 50, 51, 52, 53, 54, 55, 56, 57, 58, 59, 60, 61, 62, 63, 64, 65, 66, 67, 68, 69, 70, 71, 72, 9, 10, 11, 73, 74, 75, 76, 77, 78, 79, 80, 81, 6, 8, 82, 83, 84, 85, 86, 87, 88, 89, 90, 91, 92, 93, 94, 95, 96, 97, 98, 99, 100, 101, 102, 103, 104, 105, 106, 107, 108, 109, 110, 111, 112, 113, 114, 115, 116, 117, 118, 119, 120, 121, 122, 123, 124, 125, 126, 127, 128, 129, 130, 131, 132, 133, 134, 135, 136, 137, 138, 139, 140, 141, 149, 150, 151, 152, 153, 154, 155, 156, 157, 158, 159, 160, 161, 162, 163, 164, 165, 166, 167, 168, 169, 170, 171, 172, 173, 174, 175, 176, 177] (by decide +kernel) (by decide +kernel)
set_option maxRecDepth 20000 in
theorem gX4_worn_X1_readAll_n85 : GoodIn wsX4_worn (wsX1_readAll) := ggX4_worn_X1_readAll
theorem dX4_worn_0 : decode cX4_worn 0 = .ok (.iload_n 1, 1) := by decide +kernel
theorem dX4_worn_1 : decode cX4_worn 1 = .ok (.invokestatic 42, 3) := by decide +kernel
theorem dX4_worn_4 : decode cX4_worn 4 = .ok (.ifCond .ne 5, 3) := by decide +kernel
theorem dX4_worn_7 : decode cX4_worn 7 = .ok (.iconst (-1), 1) := by decide +kernel
theorem dX4_worn_8 : decode cX4_worn 8 = .ok (.ireturn, 1) := by decide +kernel
theorem dX4_worn_9 : decode cX4_worn 9 = .ok (.aload_n 0, 1) := by decide +kernel
theorem dX4_worn_10 : decode cX4_worn 10 = .ok (.getfield 34, 3) := by decide +kernel
theorem dX4_worn_13 : decode cX4_worn 13 = .ok (.aload_n 0, 1) := by decide +kernel
theorem dX4_worn_14 : decode cX4_worn 14 = .ok (.getfield 23, 3) := by decide +kernel
theorem dX4_worn_17 : decode cX4_worn 17 = .ok (.aload_n 0, 1) := by decide +kernel
theorem dX4_worn_18 : decode cX4_worn 18 = .ok (.getfield 27, 3) := by decide +kernel
theorem dX4_worn_21 : decode cX4_worn 21 = .ok (.aload_n 0, 1) := by decide +kernel
theorem dX4_worn_22 : decode cX4_worn 22 = .ok (.getfield 10, 3) := by decide +kernel
theorem dX4_worn_25 : decode cX4_worn 25 = .ok (.invokevirtual 85, 3) := by decide +kernel
theorem dX4_worn_28 : decode cX4_worn 28 = .ok (.istore_n 2, 1) := by decide +kernel
theorem dX4_worn_29 : decode cX4_worn 29 = .ok (.iload_n 2, 1) := by decide +kernel
theorem dX4_worn_30 : decode cX4_worn 30 = .ok (.ifCond .ne 18, 3) := by decide +kernel
theorem dX4_worn_33 : decode cX4_worn 33 = .ok (.aload_n 0, 1) := by decide +kernel
theorem dX4_worn_34 : decode cX4_worn 34 = .ok (.getfield 34, 3) := by decide +kernel
theorem dX4_worn_37 : decode cX4_worn 37 = .ok (.getfield 101, 3) := by decide +kernel
theorem dX4_worn_40 : decode cX4_worn 40 = .ok (.getfield 50, 3) := by decide +kernel
theorem dX4_worn_43 : decode cX4_worn 43 = .ok (.iload_n 1, 1) := by decide +kernel
theorem dX4_worn_44 : decode cX4_worn 44 = .ok (.iaload, 1) := by decide +kernel
theorem dX4_worn_45 : decode cX4_worn 45 = .ok (.goto 4, 3) := by decide +kernel
theorem dX4_worn_48 : decode cX4_worn 48 = .ok (.iload_n 2, 1) := by decide +kernel
theorem dX4_worn_49 : decode cX4_worn 49 = .ok (.ireturn, 1) := by decide +kernel
set_option maxRecDepth 20000 in
theorem ggX4_said_X4_isWithin : GoodIn wsX4_said wsX4_isWithin := goodIn_r _ [8] (by decide +kernel) (by decide +kernel)
set_option maxRecDepth 20000 in
theorem gX4_said_X4_isWithin : GoodIn wsX4_said (va_wsS RX4 46 yX4_isWithin wsX4_isWithin) := goodIn_app (goodIn_of _ (by decide +kernel)) ggX4_said_X4_isWithin
set_option maxRecDepth 20000 in
theorem ggX4_said_X1_readAll : GoodIn wsX4_said wsX1_readAll := goodIn_r _ [12, 13, 14, 15, 16, 17, 18, 10, 19, 20, 21, 22, 23, 24, 25, 26, 27, 28, 29, 30, 31, 32, 33, 34, 35, 36, 37, 38, 39, 40, 41, 42, 7, 43, 44, 45, 46, 47, 48, 49, 50, 51, 52, 53, 54, 55, 56, 57, 58, 59, 60, 61, 62, 63, 64, 65, 66, 67, 68, 69, 5, 6, 8, 70, 71, 72, 73, 74, 75, 76, 77, 78, 79, 80, 81, 82, 83, 84, 85, 86, 87, 88, 89, 90, 91, 92, 93, 94, 95, 96, 97, 98, 99, 100, 101, 102, 103, 104, 105, 106, 107, 108, 109, 110, 111, 112, 113, 114, 115, 116, 117, 118, 119, 120, 121, 122, 123, 124, 125, 126, 127, 128, 129, 130, 131, 132, 133, 134, 135, 136, 137, 138, 139, 140, 148, 149, 150, 151, 152, 153, 154, 155, 156, 157, 158, 161, 162, 163, 164, 165, 166, 167, 168, 169, 170, 171, 172, 173, 174, 175, 176, 159, 160] (by decide +kernel) (by decide +kernel)
set_option maxRecDepth 20000 in
theorem gX4_said_X1_readAll_n85 : GoodIn wsX4_said (wsX1_readAll) := ggX4_said_X1_readAll
theorem dX4_said_0 : decode cX4_said 0 = .ok (.iload_n 1, 1) := by decide +kernel
theorem dX4_said_1 : decode cX4_said 1 = .ok (.iconst 0, 1) := by decide +kernel
theorem dX4_said_2 : decode cX4_said 2 = .ok (.iconst 2, 1) := by decide +kernel
theorem dX4_said_3 : decode cX4_said 3 = .ok (.invokestatic 46, 3) := by decide +kernel
theorem dX4_said_6 : decode cX4_said 6 = .ok (.ifCond .ne 6, 3) := by decide +kernel
theorem dX4_said_9 : decode cX4_said 9 = .ok (.bipush (-2), 2) := by decide +kernel
theorem dX4_said_11 : decode cX4_said 11 = .ok (.ireturn, 1) := by decide +kernel
theorem dX4_said_12 : decode cX4_said 12 = .ok (.aload_n 0, 1) := by decide +kernel
theorem dX4_said_13 : decode cX4_said 13 = .ok (.getfield 34, 3) := by decide +kernel
theorem dX4_said_16 : decode cX4_said 16 = .ok (.aload_n 0, 1) := by decide +kernel
theorem dX4_said_17 : decode cX4_said 17 = .ok (.getfield 23, 3) := by decide +kernel
theorem dX4_said_20 : decode cX4_said 20 = .ok (.aload_n 0, 1) := by decide +kernel
theorem dX4_said_21 : decode cX4_said 21 = .ok (.getfield 27, 3) := by decide +kernel
theorem dX4_said_24 : decode cX4_said 24 = .ok (.aload_n 0, 1) := by decide +kernel
theorem dX4_said_25 : decode cX4_said 25 = .ok (.getfield 10, 3) := by decide +kernel
theorem dX4_said_28 : decode cX4_said 28 = .ok (.invokevirtual 85, 3) := by decide +kernel
theorem dX4_said_31 : decode cX4_said 31 = .ok (.istore_n 2, 1) := by decide +kernel
theorem dX4_said_32 : decode cX4_said 32 = .ok (.iload_n 2, 1) := by decide +kernel
theorem dX4_said_33 : decode cX4_said 33 = .ok (.ifCond .eq 5, 3) := by decide +kernel
theorem dX4_said_36 : decode cX4_said 36 = .ok (.iload_n 2, 1) := by decide +kernel
theorem dX4_said_37 : decode cX4_said 37 = .ok (.ireturn, 1) := by decide +kernel
theorem dX4_said_38 : decode cX4_said 38 = .ok (.iload_n 1, 1) := by decide +kernel
theorem dX4_said_39 : decode cX4_said 39 = .ok (.iconst 2, 1) := by decide +kernel
theorem dX4_said_40 : decode cX4_said 40 = .ok (.if_icmp .ne 11, 3) := by decide +kernel
theorem dX4_said_43 : decode cX4_said 43 = .ok (.aload_n 0, 1) := by decide +kernel
theorem dX4_said_44 : decode cX4_said 44 = .ok (.getfield 34, 3) := by decide +kernel
theorem dX4_said_47 : decode cX4_said 47 = .ok (.getfield 102, 3) := by decide +kernel
theorem dX4_said_50 : decode cX4_said 50 = .ok (.ireturn, 1) := by decide +kernel
theorem dX4_said_51 : decode cX4_said 51 = .ok (.iload_n 1, 1) := by decide +kernel
theorem dX4_said_52 : decode cX4_said 52 = .ok (.ifCond .ne 13, 3) := by decide +kernel
theorem dX4_said_55 : decode cX4_said 55 = .ok (.aload_n 0, 1) := by decide +kernel
theorem dX4_said_56 : decode cX4_said 56 = .ok (.getfield 34, 3) := by decide +kernel
theorem dX4_said_59 : decode cX4_said 59 = .ok (.getfield 105, 3) := by decide +kernel
theorem dX4_said_62 : decode cX4_said 62 = .ok (.goto 13, 3) := by decide +kernel
theorem dX4_said_65 : decode cX4_said 65 = .ok (.aload_n 0, 1) := by decide +kernel
theorem dX4_said_66 : decode cX4_said 66 = .ok (.getfield 34, 3) := by decide +kernel
theorem dX4_said_69 : decode cX4_said 69 = .ok (.getfield 108, 3) := by decide +kernel
theorem dX4_said_72 : decode cX4_said 72 = .ok (.getfield 112, 3) := by decide +kernel
theorem dX4_said_75 : decode cX4_said 75 = .ok (.ireturn, 1) := by decide +kernel
set_option maxRecDepth 20000 in
theorem ggX4_done_X1_readAll : GoodIn wsX4_done wsX1_readAll := goodIn_r _ [8, 9, 10, 11, 12, 13, 14, 6, 15, 16, 17, 18, 19, 20, 21, 22, 23, 24, 25, 26, 27, 28, 29, 30, 31, 32, 33, 34, 35, 36, 37, 38, 39, 40, 41, 42, 43, 44, 45, 46, 47, 48, 49, 50, 51, 52, 53, 54, 55, 56, 57, 58, 59, 60, 61, 62, 63, 64, 65, 66, 67, 68, 69, 70, 71, 72, 73, 74, 75, 76, 77, 78, 79, 80, 81, 82, 83, 84, 85, 86, 87, 88, 89, 90, 91, 92, 93, 94, 95, 96, 97, 98, 99, 100, 101, 102, 103, 104, 105, 106, 107, 108, 109, 110, 111, 112, 113, 114, 115, 116, 117, 118, 119, 120, 121, 122, 123, 124, 125, 126, 127, 128, 129, 130, 131, 132, 133, 134, 135, 136, 137, 138, 139, 140, 148, 149, 150, 151, 152, 153, 154, 155, 156, 157, 158, 159, 160, 161, 162, 163, 164, 165, 166, 167, 168, 169, 170, 171, 172, 173, 174, 175, 176] (by decide +kernel) (by decide +kernel)
set_option maxRecDepth 20000 in
theorem gX4_done_X1_readAll_n85 : GoodIn wsX4_done (wsX1_readAll) := ggX4_done_X1_readAll
set_option maxRecDepth 20000 in
theorem ggX4_done_X3_copyFrom : GoodIn wsX4_done wsX3_copyFrom := goodIn_r _ [26, 27, 28, 29, 30, 31, 32, 33, 34, 35, 36, 37, 38, 39, 40, 159, 160, 161, 162, 163, 164, 165, 166, 167, 168, 169] (by decide +kernel) (by decide +kernel)
set_option maxRecDepth 20000 in
theorem gX4_done_X3_copyFrom_n117 : GoodIn wsX4_done (wsX3_copyFrom) := ggX4_done_X3_copyFrom
theorem dX4_done_0 : decode cX4_done 0 = .ok (.aload_n 0, 1) := by decide +kernel
theorem dX4_done_1 : decode cX4_done 1 = .ok (.getfield 34, 3) := by decide +kernel
theorem dX4_done_4 : decode cX4_done 4 = .ok (.aload_n 0, 1) := by decide +kernel
theorem dX4_done_5 : decode cX4_done 5 = .ok (.getfield 23, 3) := by decide +kernel
theorem dX4_done_8 : decode cX4_done 8 = .ok (.aload_n 0, 1) := by decide +kernel
theorem dX4_done_9 : decode cX4_done 9 = .ok (.getfield 27, 3) := by decide +kernel
theorem dX4_done_12 : decode cX4_done 12 = .ok (.aload_n 0, 1) := by decide +kernel
theorem dX4_done_13 : decode cX4_done 13 = .ok (.getfield 10, 3) := by decide +kernel
theorem dX4_done_16 : decode cX4_done 16 = .ok (.invokevirtual 85, 3) := by decide +kernel
theorem dX4_done_19 : decode cX4_done 19 = .ok (.istore_n 1, 1) := by decide +kernel
theorem dX4_done_20 : decode cX4_done 20 = .ok (.iload_n 1, 1) := by decide +kernel
theorem dX4_done_21 : decode cX4_done 21 = .ok (.ifCond .eq 5, 3) := by decide +kernel
theorem dX4_done_24 : decode cX4_done 24 = .ok (.iload_n 1, 1) := by decide +kernel
theorem dX4_done_25 : decode cX4_done 25 = .ok (.ireturn, 1) := by decide +kernel
theorem dX4_done_26 : decode cX4_done 26 = .ok (.aload_n 0, 1) := by decide +kernel
theorem dX4_done_27 : decode cX4_done 27 = .ok (.getfield 10, 3) := by decide +kernel
theorem dX4_done_30 : decode cX4_done 30 = .ok (.aload_n 0, 1) := by decide +kernel
theorem dX4_done_31 : decode cX4_done 31 = .ok (.getfield 34, 3) := by decide +kernel
theorem dX4_done_34 : decode cX4_done 34 = .ok (.getfield 101, 3) := by decide +kernel
theorem dX4_done_37 : decode cX4_done 37 = .ok (.invokevirtual 117, 3) := by decide +kernel
theorem dX4_done_40 : decode cX4_done 40 = .ok (.aload_n 0, 1) := by decide +kernel
theorem dX4_done_41 : decode cX4_done 41 = .ok (.iconst 0, 1) := by decide +kernel
theorem dX4_done_42 : decode cX4_done 42 = .ok (.putfield 27, 3) := by decide +kernel
theorem dX4_done_45 : decode cX4_done 45 = .ok (.aload_n 0, 1) := by decide +kernel
theorem dX4_done_46 : decode cX4_done 46 = .ok (.getfield 34, 3) := by decide +kernel
theorem dX4_done_49 : decode cX4_done 49 = .ok (.getfield 121, 3) := by decide +kernel
theorem dX4_done_52 : decode cX4_done 52 = .ok (.ireturn, 1) := by decide +kernel
set_option maxRecDepth 20000 in
theorem ggX4_scales_X4_isSet : GoodIn wsX4_scales wsX4_isSet := goodIn_r _ [5, 6, 7, 4, 8] (by decide +kernel) (by decide +kernel)
set_option maxRecDepth 20000 in
theorem gX4_scales_X4_isSet : GoodIn wsX4_scales (va_wsS RX4 76 yX4_isSet wsX4_isSet) := goodIn_app (goodIn_of _ (by decide +kernel)) ggX4_scales_X4_isSet
set_option maxRecDepth 20000 in
theorem ggX4_scales_X3_weigh : GoodIn wsX4_scales wsX3_weigh := goodIn_r _ [12, 13, 14, 4, 15, 16, 17, 18, 10, 19, 20, 21, 22, 23, 24, 32, 33, 34, 35, 36, 37, 38, 39, 40, 41, 42] (by decide +kernel) (by decide +kernel)
set_option maxRecDepth 20000 in
theorem gX4_scales_X3_weigh_n124 : GoodIn wsX4_scales (wsX3_weigh) := ggX4_scales_X3_weigh
theorem dX4_scales_0 : decode cX4_scales 0 = .ok (.iload_n 1, 1) := by decide +kernel
theorem dX4_scales_1 : decode cX4_scales 1 = .ok (.invokestatic 76, 3) := by decide +kernel
theorem dX4_scales_4 : decode cX4_scales 4 = .ok (.ifCond .eq 14, 3) := by decide +kernel
theorem dX4_scales_7 : decode cX4_scales 7 = .ok (.aload_n 0, 1) := by decide +kernel
theorem dX4_scales_8 : decode cX4_scales 8 = .ok (.getfield 10, 3) := by decide +kernel
theorem dX4_scales_11 : decode cX4_scales 11 = .ok (.iload_n 1, 1) := by decide +kernel
theorem dX4_scales_12 : decode cX4_scales 12 = .ok (.invokevirtual 124, 3) := by decide +kernel
theorem dX4_scales_15 : decode cX4_scales 15 = .ok (.goto 5, 3) := by decide +kernel
theorem dX4_scales_18 : decode cX4_scales 18 = .ok (.bipush (-2), 2) := by decide +kernel
theorem dX4_scales_20 : decode cX4_scales 20 = .ok (.ireturn, 1) := by decide +kernel
set_option maxRecDepth 20000 in
theorem ggX4_says_X4_isSpeaker : GoodIn wsX4_says wsX4_isSpeaker := goodIn_r _ [7, 8, 9, 6, 10] (by decide +kernel) (by decide +kernel)
set_option maxRecDepth 20000 in
theorem gX4_says_X4_isSpeaker : GoodIn wsX4_says (va_wsS RX4 73 yX4_isSpeaker wsX4_isSpeaker) := goodIn_app (goodIn_of _ (by decide +kernel)) ggX4_says_X4_isSpeaker
set_option maxRecDepth 20000 in
theorem ggX4_says_X4_isWithin : GoodIn wsX4_says wsX4_isWithin := goodIn_r _ [10] (by decide +kernel) (by decide +kernel)
set_option maxRecDepth 20000 in
theorem gX4_says_X4_isWithin : GoodIn wsX4_says (va_wsS RX4 46 yX4_isWithin wsX4_isWithin) := goodIn_app (goodIn_of _ (by decide +kernel)) ggX4_says_X4_isWithin
set_option maxRecDepth 20000 in
theorem ggX4_says_X3_countKind : GoodIn wsX4_says wsX3_countKind := goodIn_r _ [14, 15, 16, 17, 12, 18, 19, 20, 21, 22, 23, 24, 25, 26, 37, 38, 39, 40, 41, 42, 43, 44, 45, 46, 47] (by decide +kernel) (by decide +kernel)
set_option maxRecDepth 20000 in
theorem gX4_says_X3_countKind_n131 : GoodIn wsX4_says (wsX3_countKind) := ggX4_says_X3_countKind
set_option maxRecDepth 20000 in
theorem ggX4_says_X4_power : GoodIn wsX4_says wsX4_power := goodIn_r _ [29] (by decide +kernel) (by decide +kernel)
set_option maxRecDepth 20000 in
theorem gX4_says_X4_power : GoodIn wsX4_says (va_wsS RX4 135 yX4_power wsX4_power) := goodIn_app (goodIn_of _ (by decide +kernel)) ggX4_says_X4_power
theorem dX4_says_0 : decode cX4_says 0 = .ok (.iload_n 1, 1) := by decide +kernel
theorem dX4_says_1 : decode cX4_says 1 = .ok (.invokestatic 73, 3) := by decide +kernel
theorem dX4_says_4 : decode cX4_says 4 = .ok (.ifCond .ne 7, 3) := by decide +kernel
theorem dX4_says_7 : decode cX4_says 7 = .ok (.ldc2_w 127, 3) := by decide +kernel
theorem dX4_says_10 : decode cX4_says 10 = .ok (.lreturn, 1) := by decide +kernel
theorem dX4_says_11 : decode cX4_says 11 = .ok (.iload_n 2, 1) := by decide +kernel
theorem dX4_says_12 : decode cX4_says 12 = .ok (.iconst 1, 1) := by decide +kernel
theorem dX4_says_13 : decode cX4_says 13 = .ok (.bipush 8, 2) := by decide +kernel
theorem dX4_says_15 : decode cX4_says 15 = .ok (.invokestatic 46, 3) := by decide +kernel
theorem dX4_says_18 : decode cX4_says 18 = .ok (.ifCond .ne 7, 3) := by decide +kernel
theorem dX4_says_21 : decode cX4_says 21 = .ok (.ldc2_w 129, 3) := by decide +kernel
theorem dX4_says_24 : decode cX4_says 24 = .ok (.lreturn, 1) := by decide +kernel
theorem dX4_says_25 : decode cX4_says 25 = .ok (.aload_n 0, 1) := by decide +kernel
theorem dX4_says_26 : decode cX4_says 26 = .ok (.getfield 10, 3) := by decide +kernel
theorem dX4_says_29 : decode cX4_says 29 = .ok (.getfield 82, 3) := by decide +kernel
theorem dX4_says_32 : decode cX4_says 32 = .ok (.iload_n 1, 1) := by decide +kernel
theorem dX4_says_33 : decode cX4_says 33 = .ok (.iaload, 1) := by decide +kernel
theorem dX4_says_34 : decode cX4_says 34 = .ok (.istore_n 3, 1) := by decide +kernel
theorem dX4_says_35 : decode cX4_says 35 = .ok (.aload_n 0, 1) := by decide +kernel
theorem dX4_says_36 : decode cX4_says 36 = .ok (.getfield 10, 3) := by decide +kernel
theorem dX4_says_39 : decode cX4_says 39 = .ok (.iload_n 3, 1) := by decide +kernel
theorem dX4_says_40 : decode cX4_says 40 = .ok (.iconst 0, 1) := by decide +kernel
theorem dX4_says_41 : decode cX4_says 41 = .ok (.invokevirtual 131, 3) := by decide +kernel
theorem dX4_says_44 : decode cX4_says 44 = .ok (.i2l, 1) := by decide +kernel
theorem dX4_says_45 : decode cX4_says 45 = .ok (.lstore 4, 2) := by decide +kernel
theorem dX4_says_47 : decode cX4_says 47 = .ok (.aload_n 0, 1) := by decide +kernel
theorem dX4_says_48 : decode cX4_says 48 = .ok (.getfield 10, 3) := by decide +kernel
theorem dX4_says_51 : decode cX4_says 51 = .ok (.iload_n 3, 1) := by decide +kernel
theorem dX4_says_52 : decode cX4_says 52 = .ok (.iconst 1, 1) := by decide +kernel
theorem dX4_says_53 : decode cX4_says 53 = .ok (.invokevirtual 131, 3) := by decide +kernel
theorem dX4_says_56 : decode cX4_says 56 = .ok (.i2l, 1) := by decide +kernel
theorem dX4_says_57 : decode cX4_says 57 = .ok (.lstore 6, 2) := by decide +kernel
theorem dX4_says_59 : decode cX4_says 59 = .ok (.aload_n 0, 1) := by decide +kernel
theorem dX4_says_60 : decode cX4_says 60 = .ok (.getfield 10, 3) := by decide +kernel
theorem dX4_says_63 : decode cX4_says 63 = .ok (.iload_n 3, 1) := by decide +kernel
theorem dX4_says_64 : decode cX4_says 64 = .ok (.iconst 2, 1) := by decide +kernel
theorem dX4_says_65 : decode cX4_says 65 = .ok (.invokevirtual 131, 3) := by decide +kernel
theorem dX4_says_68 : decode cX4_says 68 = .ok (.i2l, 1) := by decide +kernel
theorem dX4_says_69 : decode cX4_says 69 = .ok (.lstore 8, 2) := by decide +kernel
theorem dX4_says_71 : decode cX4_says 71 = .ok (.iload_n 2, 1) := by decide +kernel
theorem dX4_says_72 : decode cX4_says 72 = .ok (.iconst 2, 1) := by decide +kernel
theorem dX4_says_73 : decode cX4_says 73 = .ok (.if_icmp .ge 7, 3) := by decide +kernel
theorem dX4_says_76 : decode cX4_says 76 = .ok (.lconst 0, 1) := by decide +kernel
theorem dX4_says_77 : decode cX4_says 77 = .ok (.goto 17, 3) := by decide +kernel
theorem dX4_says_80 : decode cX4_says 80 = .ok (.lload 8, 2) := by decide +kernel
theorem dX4_says_82 : decode cX4_says 82 = .ok (.iload_n 2, 1) := by decide +kernel
theorem dX4_says_83 : decode cX4_says 83 = .ok (.iconst 2, 1) := by decide +kernel
theorem dX4_says_84 : decode cX4_says 84 = .ok (.isub, 1) := by decide +kernel
theorem dX4_says_85 : decode cX4_says 85 = .ok (.invokestatic 135, 3) := by decide +kernel
theorem dX4_says_88 : decode cX4_says 88 = .ok (.lload 4, 2) := by decide +kernel
theorem dX4_says_90 : decode cX4_says 90 = .ok (.lmul, 1) := by decide +kernel
theorem dX4_says_91 : decode cX4_says 91 = .ok (.lload 6, 2) := by decide +kernel
theorem dX4_says_93 : decode cX4_says 93 = .ok (.lmul, 1) := by decide +kernel
theorem dX4_says_94 : decode cX4_says 94 = .ok (.lstore 10, 2) := by decide +kernel
theorem dX4_says_96 : decode cX4_says 96 = .ok (.iload_n 2, 1) := by decide +kernel
theorem dX4_says_97 : decode cX4_says 97 = .ok (.iconst 3, 1) := by decide +kernel
theorem dX4_says_98 : decode cX4_says 98 = .ok (.if_icmp .ge 7, 3) := by decide +kernel
theorem dX4_says_101 : decode cX4_says 101 = .ok (.lconst 0, 1) := by decide +kernel
theorem dX4_says_102 : decode cX4_says 102 = .ok (.goto 25, 3) := by decide +kernel
theorem dX4_says_105 : decode cX4_says 105 = .ok (.iload_n 2, 1) := by decide +kernel
theorem dX4_says_106 : decode cX4_says 106 = .ok (.iconst 2, 1) := by decide +kernel
theorem dX4_says_107 : decode cX4_says 107 = .ok (.isub, 1) := by decide +kernel
theorem dX4_says_108 : decode cX4_says 108 = .ok (.i2l, 1) := by decide +kernel
theorem dX4_says_109 : decode cX4_says 109 = .ok (.lload 8, 2) := by decide +kernel
theorem dX4_says_111 : decode cX4_says 111 = .ok (.iload_n 2, 1) := by decide +kernel
theorem dX4_says_112 : decode cX4_says 112 = .ok (.iconst 3, 1) := by decide +kernel
theorem dX4_says_113 : decode cX4_says 113 = .ok (.isub, 1) := by decide +kernel
theorem dX4_says_114 : decode cX4_says 114 = .ok (.invokestatic 135, 3) := by decide +kernel
theorem dX4_says_117 : decode cX4_says 117 = .ok (.lmul, 1) := by decide +kernel
theorem dX4_says_118 : decode cX4_says 118 = .ok (.lload 4, 2) := by decide +kernel
theorem dX4_says_120 : decode cX4_says 120 = .ok (.lmul, 1) := by decide +kernel
theorem dX4_says_121 : decode cX4_says 121 = .ok (.lload 6, 2) := by decide +kernel
theorem dX4_says_123 : decode cX4_says 123 = .ok (.lmul, 1) := by decide +kernel
theorem dX4_says_124 : decode cX4_says 124 = .ok (.lload 4, 2) := by decide +kernel
theorem dX4_says_126 : decode cX4_says 126 = .ok (.lmul, 1) := by decide +kernel
theorem dX4_says_127 : decode cX4_says 127 = .ok (.lstore 12, 2) := by decide +kernel
theorem dX4_says_129 : decode cX4_says 129 = .ok (.lload 10, 2) := by decide +kernel
theorem dX4_says_131 : decode cX4_says 131 = .ok (.lload 12, 2) := by decide +kernel
theorem dX4_says_133 : decode cX4_says 133 = .ok (.ladd, 1) := by decide +kernel
theorem dX4_says_134 : decode cX4_says 134 = .ok (.lreturn, 1) := by decide +kernel
set_option maxRecDepth 20000 in
theorem ggX4_cheap_X4_isSpeaker : GoodIn wsX4_cheap wsX4_isSpeaker := goodIn_r _ [5, 6, 7, 4, 8] (by decide +kernel) (by decide +kernel)
set_option maxRecDepth 20000 in
theorem gX4_cheap_X4_isSpeaker : GoodIn wsX4_cheap (va_wsS RX4 73 yX4_isSpeaker wsX4_isSpeaker) := goodIn_app (goodIn_of _ (by decide +kernel)) ggX4_cheap_X4_isSpeaker
set_option maxRecDepth 20000 in
theorem ggX4_cheap_X4_isWithin : GoodIn wsX4_cheap wsX4_isWithin := goodIn_r _ [8] (by decide +kernel) (by decide +kernel)
set_option maxRecDepth 20000 in
theorem gX4_cheap_X4_isWithin : GoodIn wsX4_cheap (va_wsS RX4 46 yX4_isWithin wsX4_isWithin) := goodIn_app (goodIn_of _ (by decide +kernel)) ggX4_cheap_X4_isWithin
set_option maxRecDepth 20000 in
theorem ggX4_cheap_X4_cheapestSentence : GoodIn wsX4_cheap wsX4_cheapestSentence := goodIn_r _ [12, 1, 13, 14, 15, 16, 17, 18, 19, 20, 21, 22, 23, 24, 6, 7, 4, 8, 25, 26, 27, 28, 29, 30, 31, 32, 33, 34, 35, 36, 37, 38, 39, 40, 41, 42, 43, 44, 45, 46, 47, 48] (by decide +kernel) (by decide +kernel)
set_option maxRecDepth 20000 in
theorem gX4_cheap_X4_cheapestSentence : GoodIn wsX4_cheap (wsV RX4 139 RX4 yX4_cheapestSentence wsX4_cheapestSentence) := goodIn_app (goodIn_of _ (by decide +kernel)) ggX4_cheap_X4_cheapestSentence
set_option maxRecDepth 20000 in
theorem ggX4_cheap_X3_priceOf : GoodIn wsX4_cheap wsX3_priceOf := goodIn_r _ [27, 28, 29, 4, 30, 38, 39, 40, 41, 42, 43, 44, 45, 46, 47, 48] (by decide +kernel) (by decide +kernel)
set_option maxRecDepth 20000 in
theorem gX4_cheap_X3_priceOf_n142 : GoodIn wsX4_cheap (wsX3_priceOf) := ggX4_cheap_X3_priceOf
theorem dX4_cheap_0 : decode cX4_cheap 0 = .ok (.iload_n 1, 1) := by decide +kernel
theorem dX4_cheap_1 : decode cX4_cheap 1 = .ok (.invokestatic 73, 3) := by decide +kernel
theorem dX4_cheap_4 : decode cX4_cheap 4 = .ok (.ifCond .ne 5, 3) := by decide +kernel
theorem dX4_cheap_7 : decode cX4_cheap 7 = .ok (.iconst (-1), 1) := by decide +kernel
theorem dX4_cheap_8 : decode cX4_cheap 8 = .ok (.ireturn, 1) := by decide +kernel
theorem dX4_cheap_9 : decode cX4_cheap 9 = .ok (.iload_n 2, 1) := by decide +kernel
theorem dX4_cheap_10 : decode cX4_cheap 10 = .ok (.iconst 1, 1) := by decide +kernel
theorem dX4_cheap_11 : decode cX4_cheap 11 = .ok (.bipush 8, 2) := by decide +kernel
theorem dX4_cheap_13 : decode cX4_cheap 13 = .ok (.invokestatic 46, 3) := by decide +kernel
theorem dX4_cheap_16 : decode cX4_cheap 16 = .ok (.ifCond .eq 12, 3) := by decide +kernel
theorem dX4_cheap_19 : decode cX4_cheap 19 = .ok (.iload_n 3, 1) := by decide +kernel
theorem dX4_cheap_20 : decode cX4_cheap 20 = .ok (.iconst 0, 1) := by decide +kernel
theorem dX4_cheap_21 : decode cX4_cheap 21 = .ok (.iconst 1, 1) := by decide +kernel
theorem dX4_cheap_22 : decode cX4_cheap 22 = .ok (.invokestatic 46, 3) := by decide +kernel
theorem dX4_cheap_25 : decode cX4_cheap 25 = .ok (.ifCond .ne 6, 3) := by decide +kernel
theorem dX4_cheap_28 : decode cX4_cheap 28 = .ok (.bipush (-2), 2) := by decide +kernel
theorem dX4_cheap_30 : decode cX4_cheap 30 = .ok (.ireturn, 1) := by decide +kernel
theorem dX4_cheap_31 : decode cX4_cheap 31 = .ok (.aload_n 0, 1) := by decide +kernel
theorem dX4_cheap_32 : decode cX4_cheap 32 = .ok (.getfield 10, 3) := by decide +kernel
theorem dX4_cheap_35 : decode cX4_cheap 35 = .ok (.getfield 82, 3) := by decide +kernel
theorem dX4_cheap_38 : decode cX4_cheap 38 = .ok (.iload_n 1, 1) := by decide +kernel
theorem dX4_cheap_39 : decode cX4_cheap 39 = .ok (.iaload, 1) := by decide +kernel
theorem dX4_cheap_40 : decode cX4_cheap 40 = .ok (.istore 4, 2) := by decide +kernel
theorem dX4_cheap_42 : decode cX4_cheap 42 = .ok (.aload_n 0, 1) := by decide +kernel
theorem dX4_cheap_43 : decode cX4_cheap 43 = .ok (.iload 4, 2) := by decide +kernel
theorem dX4_cheap_45 : decode cX4_cheap 45 = .ok (.iload_n 2, 1) := by decide +kernel
theorem dX4_cheap_46 : decode cX4_cheap 46 = .ok (.invokevirtual 139, 3) := by decide +kernel
theorem dX4_cheap_49 : decode cX4_cheap 49 = .ok (.istore 5, 2) := by decide +kernel
theorem dX4_cheap_51 : decode cX4_cheap 51 = .ok (.iload_n 3, 1) := by decide +kernel
theorem dX4_cheap_52 : decode cX4_cheap 52 = .ok (.iconst 1, 1) := by decide +kernel
theorem dX4_cheap_53 : decode cX4_cheap 53 = .ok (.if_icmp .eq 10, 3) := by decide +kernel
theorem dX4_cheap_56 : decode cX4_cheap 56 = .ok (.iload 5, 2) := by decide +kernel
theorem dX4_cheap_58 : decode cX4_cheap 58 = .ok (.bipush (-6), 2) := by decide +kernel
theorem dX4_cheap_60 : decode cX4_cheap 60 = .ok (.if_icmp .ne 8, 3) := by decide +kernel
theorem dX4_cheap_63 : decode cX4_cheap 63 = .ok (.iload 5, 2) := by decide +kernel
theorem dX4_cheap_65 : decode cX4_cheap 65 = .ok (.goto 17, 3) := by decide +kernel
theorem dX4_cheap_68 : decode cX4_cheap 68 = .ok (.aload_n 0, 1) := by decide +kernel
theorem dX4_cheap_69 : decode cX4_cheap 69 = .ok (.getfield 10, 3) := by decide +kernel
theorem dX4_cheap_72 : decode cX4_cheap 72 = .ok (.iload 5, 2) := by decide +kernel
theorem dX4_cheap_74 : decode cX4_cheap 74 = .ok (.iload 4, 2) := by decide +kernel
theorem dX4_cheap_76 : decode cX4_cheap 76 = .ok (.iconst (-1), 1) := by decide +kernel
theorem dX4_cheap_77 : decode cX4_cheap 77 = .ok (.ixor, 1) := by decide +kernel
theorem dX4_cheap_78 : decode cX4_cheap 78 = .ok (.iand, 1) := by decide +kernel
theorem dX4_cheap_79 : decode cX4_cheap 79 = .ok (.invokevirtual 142, 3) := by decide +kernel
theorem dX4_cheap_82 : decode cX4_cheap 82 = .ok (.ireturn, 1) := by decide +kernel
set_option maxRecDepth 20000 in
theorem ggX4_pool_X4_isWithin : GoodIn wsX4_pool wsX4_isWithin := goodIn_r _ [4] (by decide +kernel) (by decide +kernel)
set_option maxRecDepth 20000 in
theorem gX4_pool_X4_isWithin : GoodIn wsX4_pool (va_wsS RX4 46 yX4_isWithin wsX4_isWithin) := goodIn_app (goodIn_of _ (by decide +kernel)) ggX4_pool_X4_isWithin
set_option maxRecDepth 20000 in
theorem ggX4_pool_X4_fewestSpeakers : GoodIn wsX4_pool wsX4_fewestSpeakers := goodIn_r _ [8, 9, 10, 11, 12, 13, 14, 15, 16, 17, 18, 19, 20, 21, 22, 3, 23, 24, 25, 26, 27, 28, 29, 30, 31, 32, 33, 34, 35, 36, 37, 38, 39, 40, 41, 42, 43, 44, 45, 46, 47, 48, 49, 50, 51, 52, 53, 54] (by decide +kernel) (by decide +kernel)
set_option maxRecDepth 20000 in
theorem gX4_pool_X4_fewestSpeakers : GoodIn wsX4_pool (wsV RX4 145 RX4 yX4_fewestSpeakers wsX4_fewestSpeakers) := goodIn_app (goodIn_of _ (by decide +kernel)) ggX4_pool_X4_fewestSpeakers
set_option maxRecDepth 20000 in
theorem ggX4_pool_J6_bitCount_0f7a4 : GoodIn wsX4_pool wsJ6_bitCount_0f7a4 := goodIn_r _ [13, 14, 15, 16] (by decide +kernel) (by decide +kernel)
set_option maxRecDepth 20000 in
theorem gX4_pool_J6_bitCount_0f7a4 : GoodIn wsX4_pool (va_wsS RX4 63 yJ6_bitCount_0f7a4 wsJ6_bitCount_0f7a4) := goodIn_app (goodIn_of _ (by decide +kernel)) ggX4_pool_J6_bitCount_0f7a4
theorem dX4_pool_0 : decode cX4_pool 0 = .ok (.iload_n 1, 1) := by decide +kernel
theorem dX4_pool_1 : decode cX4_pool 1 = .ok (.iconst 1, 1) := by decide +kernel
theorem dX4_pool_2 : decode cX4_pool 2 = .ok (.bipush 8, 2) := by decide +kernel
theorem dX4_pool_4 : decode cX4_pool 4 = .ok (.invokestatic 46, 3) := by decide +kernel
theorem dX4_pool_7 : decode cX4_pool 7 = .ok (.ifCond .eq 12, 3) := by decide +kernel
theorem dX4_pool_10 : decode cX4_pool 10 = .ok (.iload_n 2, 1) := by decide +kernel
theorem dX4_pool_11 : decode cX4_pool 11 = .ok (.iconst 0, 1) := by decide +kernel
theorem dX4_pool_12 : decode cX4_pool 12 = .ok (.iconst 1, 1) := by decide +kernel
theorem dX4_pool_13 : decode cX4_pool 13 = .ok (.invokestatic 46, 3) := by decide +kernel
theorem dX4_pool_16 : decode cX4_pool 16 = .ok (.ifCond .ne 6, 3) := by decide +kernel
theorem dX4_pool_19 : decode cX4_pool 19 = .ok (.bipush (-2), 2) := by decide +kernel
theorem dX4_pool_21 : decode cX4_pool 21 = .ok (.ireturn, 1) := by decide +kernel
theorem dX4_pool_22 : decode cX4_pool 22 = .ok (.aload_n 0, 1) := by decide +kernel
theorem dX4_pool_23 : decode cX4_pool 23 = .ok (.iload_n 1, 1) := by decide +kernel
theorem dX4_pool_24 : decode cX4_pool 24 = .ok (.invokevirtual 145, 3) := by decide +kernel
theorem dX4_pool_27 : decode cX4_pool 27 = .ok (.istore_n 3, 1) := by decide +kernel
theorem dX4_pool_28 : decode cX4_pool 28 = .ok (.iload_n 2, 1) := by decide +kernel
theorem dX4_pool_29 : decode cX4_pool 29 = .ok (.iconst 1, 1) := by decide +kernel
theorem dX4_pool_30 : decode cX4_pool 30 = .ok (.if_icmp .eq 9, 3) := by decide +kernel
theorem dX4_pool_33 : decode cX4_pool 33 = .ok (.iload_n 3, 1) := by decide +kernel
theorem dX4_pool_34 : decode cX4_pool 34 = .ok (.bipush (-6), 2) := by decide +kernel
theorem dX4_pool_36 : decode cX4_pool 36 = .ok (.if_icmp .ne 7, 3) := by decide +kernel
theorem dX4_pool_39 : decode cX4_pool 39 = .ok (.iload_n 3, 1) := by decide +kernel
theorem dX4_pool_40 : decode cX4_pool 40 = .ok (.goto 7, 3) := by decide +kernel
theorem dX4_pool_43 : decode cX4_pool 43 = .ok (.iload_n 3, 1) := by decide +kernel
theorem dX4_pool_44 : decode cX4_pool 44 = .ok (.invokestatic 63, 3) := by decide +kernel
theorem dX4_pool_47 : decode cX4_pool 47 = .ok (.ireturn, 1) := by decide +kernel
set_option maxRecDepth 20000 in
theorem ggX4_wish_X4_isSet : GoodIn wsX4_wish wsX4_isSet := goodIn_r _ [5, 6, 7, 4, 8] (by decide +kernel) (by decide +kernel)
set_option maxRecDepth 20000 in
theorem gX4_wish_X4_isSet : GoodIn wsX4_wish (va_wsS RX4 76 yX4_isSet wsX4_isSet) := goodIn_app (goodIn_of _ (by decide +kernel)) ggX4_wish_X4_isSet
set_option maxRecDepth 20000 in
theorem ggX4_wish_X4_isWithin : GoodIn wsX4_wish wsX4_isWithin := goodIn_r _ [8] (by decide +kernel) (by decide +kernel)
set_option maxRecDepth 20000 in
theorem gX4_wish_X4_isWithin : GoodIn wsX4_wish (va_wsS RX4 46 yX4_isWithin wsX4_isWithin) := goodIn_app (goodIn_of _ (by decide +kernel)) ggX4_wish_X4_isWithin
theorem dX4_wish_0 : decode cX4_wish 0 = .ok (.iload_n 1, 1) := by decide +kernel
theorem dX4_wish_1 : decode cX4_wish 1 = .ok (.invokestatic 76, 3) := by decide +kernel
theorem dX4_wish_4 : decode cX4_wish 4 = .ok (.ifCond .ne 6, 3) := by decide +kernel
theorem dX4_wish_7 : decode cX4_wish 7 = .ok (.bipush (-2), 2) := by decide +kernel
theorem dX4_wish_9 : decode cX4_wish 9 = .ok (.ireturn, 1) := by decide +kernel
theorem dX4_wish_10 : decode cX4_wish 10 = .ok (.aload_n 0, 1) := by decide +kernel
theorem dX4_wish_11 : decode cX4_wish 11 = .ok (.getfield 10, 3) := by decide +kernel
theorem dX4_wish_14 : decode cX4_wish 14 = .ok (.getfield 148, 3) := by decide +kernel
theorem dX4_wish_17 : decode cX4_wish 17 = .ok (.iconst 0, 1) := by decide +kernel
theorem dX4_wish_18 : decode cX4_wish 18 = .ok (.bipush 7, 2) := by decide +kernel
theorem dX4_wish_20 : decode cX4_wish 20 = .ok (.invokestatic 46, 3) := by decide +kernel
theorem dX4_wish_23 : decode cX4_wish 23 = .ok (.ifCond .ne 6, 3) := by decide +kernel
theorem dX4_wish_26 : decode cX4_wish 26 = .ok (.bipush (-4), 2) := by decide +kernel
theorem dX4_wish_28 : decode cX4_wish 28 = .ok (.ireturn, 1) := by decide +kernel
theorem dX4_wish_29 : decode cX4_wish 29 = .ok (.aload_n 0, 1) := by decide +kernel
theorem dX4_wish_30 : decode cX4_wish 30 = .ok (.getfield 10, 3) := by decide +kernel
theorem dX4_wish_33 : decode cX4_wish 33 = .ok (.getfield 151, 3) := by decide +kernel
theorem dX4_wish_36 : decode cX4_wish 36 = .ok (.aload_n 0, 1) := by decide +kernel
theorem dX4_wish_37 : decode cX4_wish 37 = .ok (.getfield 10, 3) := by decide +kernel
theorem dX4_wish_40 : decode cX4_wish 40 = .ok (.getfield 148, 3) := by decide +kernel
theorem dX4_wish_43 : decode cX4_wish 43 = .ok (.iload_n 1, 1) := by decide +kernel
theorem dX4_wish_44 : decode cX4_wish 44 = .ok (.iastore, 1) := by decide +kernel
theorem dX4_wish_45 : decode cX4_wish 45 = .ok (.aload_n 0, 1) := by decide +kernel
theorem dX4_wish_46 : decode cX4_wish 46 = .ok (.getfield 10, 3) := by decide +kernel
theorem dX4_wish_49 : decode cX4_wish 49 = .ok (.dup, 1) := by decide +kernel
theorem dX4_wish_50 : decode cX4_wish 50 = .ok (.getfield 148, 3) := by decide +kernel
theorem dX4_wish_53 : decode cX4_wish 53 = .ok (.iconst 1, 1) := by decide +kernel
theorem dX4_wish_54 : decode cX4_wish 54 = .ok (.iadd, 1) := by decide +kernel
theorem dX4_wish_55 : decode cX4_wish 55 = .ok (.putfield 148, 3) := by decide +kernel
theorem dX4_wish_58 : decode cX4_wish 58 = .ok (.aload_n 0, 1) := by decide +kernel
theorem dX4_wish_59 : decode cX4_wish 59 = .ok (.getfield 10, 3) := by decide +kernel
theorem dX4_wish_62 : decode cX4_wish 62 = .ok (.getfield 148, 3) := by decide +kernel
theorem dX4_wish_65 : decode cX4_wish 65 = .ok (.ireturn, 1) := by decide +kernel
theorem dX4_unwish_0 : decode cX4_unwish 0 = .ok (.aload_n 0, 1) := by decide +kernel
theorem dX4_unwish_1 : decode cX4_unwish 1 = .ok (.getfield 10, 3) := by decide +kernel
theorem dX4_unwish_4 : decode cX4_unwish 4 = .ok (.getfield 148, 3) := by decide +kernel
theorem dX4_unwish_7 : decode cX4_unwish 7 = .ok (.istore_n 1, 1) := by decide +kernel
theorem dX4_unwish_8 : decode cX4_unwish 8 = .ok (.aload_n 0, 1) := by decide +kernel
theorem dX4_unwish_9 : decode cX4_unwish 9 = .ok (.getfield 10, 3) := by decide +kernel
theorem dX4_unwish_12 : decode cX4_unwish 12 = .ok (.iconst 0, 1) := by decide +kernel
theorem dX4_unwish_13 : decode cX4_unwish 13 = .ok (.putfield 148, 3) := by decide +kernel
theorem dX4_unwish_16 : decode cX4_unwish 16 = .ok (.iload_n 1, 1) := by decide +kernel
theorem dX4_unwish_17 : decode cX4_unwish 17 = .ok (.ireturn, 1) := by decide +kernel
set_option maxRecDepth 20000 in
theorem ggX4_nine_X4_isWithin : GoodIn wsX4_nine wsX4_isWithin := goodIn_r _ [4] (by decide +kernel) (by decide +kernel)
set_option maxRecDepth 20000 in
theorem gX4_nine_X4_isWithin : GoodIn wsX4_nine (va_wsS RX4 46 yX4_isWithin wsX4_isWithin) := goodIn_app (goodIn_of _ (by decide +kernel)) ggX4_nine_X4_isWithin
set_option maxRecDepth 20000 in
theorem ggX4_nine_X4_fewestWords : GoodIn wsX4_nine wsX4_fewestWords := goodIn_r _ [8, 9, 10, 11, 12, 13, 14, 15, 16, 17, 18, 19, 20, 21, 22, 23, 24, 25, 26, 27, 28, 29, 30, 31, 32, 33, 34, 35, 36, 37, 38, 39, 40] (by decide +kernel) (by decide +kernel)
set_option maxRecDepth 20000 in
theorem gX4_nine_X4_fewestWords : GoodIn wsX4_nine (wsV RX4 154 RX4 yX4_fewestWords wsX4_fewestWords) := goodIn_app (goodIn_of _ (by decide +kernel)) ggX4_nine_X4_fewestWords
set_option maxRecDepth 20000 in
theorem ggX4_nine_J6_bitCount_0f7a4 : GoodIn wsX4_nine wsJ6_bitCount_0f7a4 := goodIn_r _ [13, 14, 15, 16] (by decide +kernel) (by decide +kernel)
set_option maxRecDepth 20000 in
theorem gX4_nine_J6_bitCount_0f7a4 : GoodIn wsX4_nine (va_wsS RX4 63 yJ6_bitCount_0f7a4 wsJ6_bitCount_0f7a4) := goodIn_app (goodIn_of _ (by decide +kernel)) ggX4_nine_J6_bitCount_0f7a4
theorem dX4_nine_0 : decode cX4_nine 0 = .ok (.iload_n 1, 1) := by decide +kernel
theorem dX4_nine_1 : decode cX4_nine 1 = .ok (.iconst 0, 1) := by decide +kernel
theorem dX4_nine_2 : decode cX4_nine 2 = .ok (.iconst 1, 1) := by decide +kernel
theorem dX4_nine_3 : decode cX4_nine 3 = .ok (.invokestatic 46, 3) := by decide +kernel
theorem dX4_nine_6 : decode cX4_nine 6 = .ok (.ifCond .ne 6, 3) := by decide +kernel
theorem dX4_nine_9 : decode cX4_nine 9 = .ok (.bipush (-2), 2) := by decide +kernel
theorem dX4_nine_11 : decode cX4_nine 11 = .ok (.ireturn, 1) := by decide +kernel
theorem dX4_nine_12 : decode cX4_nine 12 = .ok (.aload_n 0, 1) := by decide +kernel
theorem dX4_nine_13 : decode cX4_nine 13 = .ok (.invokevirtual 154, 3) := by decide +kernel
theorem dX4_nine_16 : decode cX4_nine 16 = .ok (.istore_n 2, 1) := by decide +kernel
theorem dX4_nine_17 : decode cX4_nine 17 = .ok (.iload_n 1, 1) := by decide +kernel
theorem dX4_nine_18 : decode cX4_nine 18 = .ok (.iconst 1, 1) := by decide +kernel
theorem dX4_nine_19 : decode cX4_nine 19 = .ok (.if_icmp .eq 9, 3) := by decide +kernel
theorem dX4_nine_22 : decode cX4_nine 22 = .ok (.iload_n 2, 1) := by decide +kernel
theorem dX4_nine_23 : decode cX4_nine 23 = .ok (.bipush (-6), 2) := by decide +kernel
theorem dX4_nine_25 : decode cX4_nine 25 = .ok (.if_icmp .ne 7, 3) := by decide +kernel
theorem dX4_nine_28 : decode cX4_nine 28 = .ok (.iload_n 2, 1) := by decide +kernel
theorem dX4_nine_29 : decode cX4_nine 29 = .ok (.goto 7, 3) := by decide +kernel
theorem dX4_nine_32 : decode cX4_nine 32 = .ok (.iload_n 2, 1) := by decide +kernel
theorem dX4_nine_33 : decode cX4_nine 33 = .ok (.invokestatic 63, 3) := by decide +kernel
theorem dX4_nine_36 : decode cX4_nine 36 = .ok (.ireturn, 1) := by decide +kernel
set_option maxRecDepth 20000 in
theorem ggX4_seen_X4_isSet : GoodIn wsX4_seen wsX4_isSet := goodIn_r _ [5, 6, 7, 4, 8] (by decide +kernel) (by decide +kernel)
set_option maxRecDepth 20000 in
theorem gX4_seen_X4_isSet : GoodIn wsX4_seen (va_wsS RX4 76 yX4_isSet wsX4_isSet) := goodIn_app (goodIn_of _ (by decide +kernel)) ggX4_seen_X4_isSet
set_option maxRecDepth 20000 in
theorem ggX4_seen_X4_isWithin : GoodIn wsX4_seen wsX4_isWithin := goodIn_r _ [8] (by decide +kernel) (by decide +kernel)
set_option maxRecDepth 20000 in
theorem gX4_seen_X4_isWithin : GoodIn wsX4_seen (va_wsS RX4 46 yX4_isWithin wsX4_isWithin) := goodIn_app (goodIn_of _ (by decide +kernel)) ggX4_seen_X4_isWithin
set_option maxRecDepth 20000 in
theorem ggX4_seen_J6_bitCount_0f7a4 : GoodIn wsX4_seen wsJ6_bitCount_0f7a4 := goodIn_r _ [12, 13, 14, 15] (by decide +kernel) (by decide +kernel)
set_option maxRecDepth 20000 in
theorem gX4_seen_J6_bitCount_0f7a4 : GoodIn wsX4_seen (va_wsS RX4 63 yJ6_bitCount_0f7a4 wsJ6_bitCount_0f7a4) := goodIn_app (goodIn_of _ (by decide +kernel)) ggX4_seen_J6_bitCount_0f7a4
theorem dX4_seen_0 : decode cX4_seen 0 = .ok (.iload_n 1, 1) := by decide +kernel
theorem dX4_seen_1 : decode cX4_seen 1 = .ok (.invokestatic 76, 3) := by decide +kernel
theorem dX4_seen_4 : decode cX4_seen 4 = .ok (.ifCond .eq 19, 3) := by decide +kernel
theorem dX4_seen_7 : decode cX4_seen 7 = .ok (.iload_n 2, 1) := by decide +kernel
theorem dX4_seen_8 : decode cX4_seen 8 = .ok (.invokestatic 76, 3) := by decide +kernel
theorem dX4_seen_11 : decode cX4_seen 11 = .ok (.ifCond .eq 12, 3) := by decide +kernel
theorem dX4_seen_14 : decode cX4_seen 14 = .ok (.iload_n 3, 1) := by decide +kernel
theorem dX4_seen_15 : decode cX4_seen 15 = .ok (.iconst 0, 1) := by decide +kernel
theorem dX4_seen_16 : decode cX4_seen 16 = .ok (.iconst 2, 1) := by decide +kernel
theorem dX4_seen_17 : decode cX4_seen 17 = .ok (.invokestatic 46, 3) := by decide +kernel
theorem dX4_seen_20 : decode cX4_seen 20 = .ok (.ifCond .ne 6, 3) := by decide +kernel
theorem dX4_seen_23 : decode cX4_seen 23 = .ok (.bipush (-2), 2) := by decide +kernel
theorem dX4_seen_25 : decode cX4_seen 25 = .ok (.ireturn, 1) := by decide +kernel
theorem dX4_seen_26 : decode cX4_seen 26 = .ok (.iload_n 1, 1) := by decide +kernel
theorem dX4_seen_27 : decode cX4_seen 27 = .ok (.invokestatic 63, 3) := by decide +kernel
theorem dX4_seen_30 : decode cX4_seen 30 = .ok (.iload_n 2, 1) := by decide +kernel
