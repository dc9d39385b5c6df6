theorem dX0_init_5 : decode cX0_init 5 = .ok (.iconst 0, 1) := by decide +kernel
theorem dX0_init_6 : decode cX0_init 6 = .ok (.putfield 11, 3) := by decide +kernel
theorem dX0_init_9 : decode cX0_init 9 = .ok (.aload_n 0, 1) := by decide +kernel
theorem dX0_init_10 : decode cX0_init 10 = .ok (.iconst 2, 1) := by decide +kernel
theorem dX0_init_11 : decode cX0_init 11 = .ok (.putfield 15, 3) := by decide +kernel
theorem dX0_init_14 : decode cX0_init 14 = .ok (.aload_n 0, 1) := by decide +kernel
theorem dX0_init_15 : decode cX0_init 15 = .ok (.iconst 0, 1) := by decide +kernel
theorem dX0_init_16 : decode cX0_init 16 = .ok (.putfield 18, 3) := by decide +kernel
theorem dX0_init_19 : decode cX0_init 19 = .ok (.aload_n 0, 1) := by decide +kernel
theorem dX0_init_20 : decode cX0_init 20 = .ok (.iconst 0, 1) := by decide +kernel
theorem dX0_init_21 : decode cX0_init 21 = .ok (.putfield 21, 3) := by decide +kernel
theorem dX0_init_24 : decode cX0_init 24 = .ok (.aload_n 0, 1) := by decide +kernel
theorem dX0_init_25 : decode cX0_init 25 = .ok (.iconst 0, 1) := by decide +kernel
theorem dX0_init_26 : decode cX0_init 26 = .ok (.putfield 24, 3) := by decide +kernel
theorem dX0_init_29 : decode cX0_init 29 = .ok (.return_, 1) := by decide +kernel
theorem dX0_begin_0 : decode cX0_begin 0 = .ok (.aload_n 0, 1) := by decide +kernel
theorem dX0_begin_1 : decode cX0_begin 1 = .ok (.iconst 0, 1) := by decide +kernel
theorem dX0_begin_2 : decode cX0_begin 2 = .ok (.putfield 11, 3) := by decide +kernel
theorem dX0_begin_5 : decode cX0_begin 5 = .ok (.return_, 1) := by decide +kernel
theorem dX0_isBetweenActs_0 : decode cX0_isBetweenActs 0 = .ok (.aload_n 0, 1) := by decide +kernel
theorem dX0_isBetweenActs_1 : decode cX0_isBetweenActs 1 = .ok (.getfield 11, 3) := by decide +kernel
theorem dX0_isBetweenActs_4 : decode cX0_isBetweenActs 4 = .ok (.ifCond .ne 7, 3) := by decide +kernel
theorem dX0_isBetweenActs_7 : decode cX0_isBetweenActs 7 = .ok (.iconst 1, 1) := by decide +kernel
theorem dX0_isBetweenActs_8 : decode cX0_isBetweenActs 8 = .ok (.goto 4, 3) := by decide +kernel
theorem dX0_isBetweenActs_11 : decode cX0_isBetweenActs 11 = .ok (.iconst 0, 1) := by decide +kernel
theorem dX0_isBetweenActs_12 : decode cX0_isBetweenActs 12 = .ok (.ireturn, 1) := by decide +kernel
set_option maxRecDepth 20000 in
theorem ggX0_take_X0_takeDot : GoodIn wsX0_take wsX0_takeDot := goodIn_r _ [6, 7, 35, 36, 37, 38, 39] (by decide +kernel) (by decide +kernel)
set_option maxRecDepth 20000 in
theorem gX0_take_X0_takeDot : GoodIn wsX0_take (wsV RX0 27 RX0 yX0_takeDot wsX0_takeDot) := goodIn_app (goodIn_of _ (by decide +kernel)) ggX0_take_X0_takeDot
set_option maxRecDepth 20000 in
theorem ggX0_take_X0_takeSpeaker : GoodIn wsX0_take wsX0_takeSpeaker := goodIn_r _ [11, 12, 7, 1, 13, 14, 15, 16, 17, 18, 35, 36, 37, 38, 39] (by decide +kernel) (by decide +kernel)
set_option maxRecDepth 20000 in
theorem gX0_take_X0_takeSpeaker : GoodIn wsX0_take (wsV RX0 31 RX0 yX0_takeSpeaker wsX0_takeSpeaker) := goodIn_app (goodIn_of _ (by decide +kernel)) ggX0_take_X0_takeSpeaker
set_option maxRecDepth 20000 in
theorem ggX0_take_X0_takeMark : GoodIn wsX0_take wsX0_takeMark := goodIn_r _ [22, 7, 1, 35, 36, 37, 38, 39] (by decide +kernel) (by decide +kernel)
set_option maxRecDepth 20000 in
theorem gX0_take_X0_takeMark : GoodIn wsX0_take (wsV RX0 34 RX0 yX0_takeMark wsX0_takeMark) := goodIn_app (goodIn_of _ (by decide +kernel)) ggX0_take_X0_takeMark
set_option maxRecDepth 20000 in
theorem ggX0_take_X0_takeWord : GoodIn wsX0_take wsX0_takeWord := goodIn_r _ [26, 27, 1, 28, 14, 29, 16, 17, 18, 35, 36, 37, 38, 39] (by decide +kernel) (by decide +kernel)
set_option maxRecDepth 20000 in
theorem gX0_take_X0_takeWord : GoodIn wsX0_take (wsV RX0 37 RX0 yX0_takeWord wsX0_takeWord) := goodIn_app (goodIn_of _ (by decide +kernel)) ggX0_take_X0_takeWord
set_option maxRecDepth 20000 in
theorem ggX0_take_X0_takeOther : GoodIn wsX0_take wsX0_takeOther := goodIn_r _ [33, 34, 1, 13, 14, 15, 16, 17, 18, 35, 36, 37, 38, 39] (by decide +kernel) (by decide +kernel)
set_option maxRecDepth 20000 in
theorem gX0_take_X0_takeOther : GoodIn wsX0_take (wsV RX0 40 RX0 yX0_takeOther wsX0_takeOther) := goodIn_app (goodIn_of _ (by decide +kernel)) ggX0_take_X0_takeOther
theorem dX0_take_0 : decode cX0_take 0 = .ok (.aload_n 0, 1) := by decide +kernel
theorem dX0_take_1 : decode cX0_take 1 = .ok (.getfield 11, 3) := by decide +kernel
theorem dX0_take_4 : decode cX0_take 4 = .ok (.tableswitch 78 0 2 #[28, 50, 72], 28) := by decide +kernel
theorem dX0_take_32 : decode cX0_take 32 = .ok (.aload_n 0, 1) := by decide +kernel
theorem dX0_take_33 : decode cX0_take 33 = .ok (.iload_n 1, 1) := by decide +kernel
theorem dX0_take_34 : decode cX0_take 34 = .ok (.invokevirtual 27, 3) := by decide +kernel
theorem dX0_take_37 : decode cX0_take 37 = .ok (.ifCond .ne 11, 3) := by decide +kernel
theorem dX0_take_40 : decode cX0_take 40 = .ok (.aload_n 0, 1) := by decide +kernel
theorem dX0_take_41 : decode cX0_take 41 = .ok (.iload_n 1, 1) := by decide +kernel
theorem dX0_take_42 : decode cX0_take 42 = .ok (.invokevirtual 31, 3) := by decide +kernel
theorem dX0_take_45 : decode cX0_take 45 = .ok (.ifCond .eq 7, 3) := by decide +kernel
theorem dX0_take_48 : decode cX0_take 48 = .ok (.iconst 1, 1) := by decide +kernel
theorem dX0_take_49 : decode cX0_take 49 = .ok (.goto 4, 3) := by decide +kernel
theorem dX0_take_52 : decode cX0_take 52 = .ok (.iconst 0, 1) := by decide +kernel
theorem dX0_take_53 : decode cX0_take 53 = .ok (.ireturn, 1) := by decide +kernel
theorem dX0_take_54 : decode cX0_take 54 = .ok (.aload_n 0, 1) := by decide +kernel
theorem dX0_take_55 : decode cX0_take 55 = .ok (.iload_n 1, 1) := by decide +kernel
theorem dX0_take_56 : decode cX0_take 56 = .ok (.invokevirtual 34, 3) := by decide +kernel
theorem dX0_take_59 : decode cX0_take 59 = .ok (.ifCond .ne 11, 3) := by decide +kernel
theorem dX0_take_62 : decode cX0_take 62 = .ok (.aload_n 0, 1) := by decide +kernel
theorem dX0_take_63 : decode cX0_take 63 = .ok (.iload_n 1, 1) := by decide +kernel
theorem dX0_take_64 : decode cX0_take 64 = .ok (.invokevirtual 37, 3) := by decide +kernel
theorem dX0_take_67 : decode cX0_take 67 = .ok (.ifCond .eq 7, 3) := by decide +kernel
theorem dX0_take_70 : decode cX0_take 70 = .ok (.iconst 1, 1) := by decide +kernel
theorem dX0_take_71 : decode cX0_take 71 = .ok (.goto 4, 3) := by decide +kernel
theorem dX0_take_74 : decode cX0_take 74 = .ok (.iconst 0, 1) := by decide +kernel
theorem dX0_take_75 : decode cX0_take 75 = .ok (.ireturn, 1) := by decide +kernel
theorem dX0_take_76 : decode cX0_take 76 = .ok (.aload_n 0, 1) := by decide +kernel
theorem dX0_take_77 : decode cX0_take 77 = .ok (.iload_n 1, 1) := by decide +kernel
theorem dX0_take_78 : decode cX0_take 78 = .ok (.invokevirtual 40, 3) := by decide +kernel
theorem dX0_take_81 : decode cX0_take 81 = .ok (.ireturn, 1) := by decide +kernel
theorem dX0_take_82 : decode cX0_take 82 = .ok (.aload_n 0, 1) := by decide +kernel
theorem dX0_take_83 : decode cX0_take 83 = .ok (.iload_n 1, 1) := by decide +kernel
theorem dX0_take_84 : decode cX0_take 84 = .ok (.invokevirtual 37, 3) := by decide +kernel
theorem dX0_take_87 : decode cX0_take 87 = .ok (.ireturn, 1) := by decide +kernel
theorem dX0_takeDot_0 : decode cX0_takeDot 0 = .ok (.iload_n 1, 1) := by decide +kernel
theorem dX0_takeDot_1 : decode cX0_takeDot 1 = .ok (.bipush 46, 2) := by decide +kernel
theorem dX0_takeDot_3 : decode cX0_takeDot 3 = .ok (.if_icmp .eq 5, 3) := by decide +kernel
theorem dX0_takeDot_6 : decode cX0_takeDot 6 = .ok (.iconst 0, 1) := by decide +kernel
theorem dX0_takeDot_7 : decode cX0_takeDot 7 = .ok (.ireturn, 1) := by decide +kernel
theorem dX0_takeDot_8 : decode cX0_takeDot 8 = .ok (.aload_n 0, 1) := by decide +kernel
theorem dX0_takeDot_9 : decode cX0_takeDot 9 = .ok (.iconst 4, 1) := by decide +kernel
theorem dX0_takeDot_10 : decode cX0_takeDot 10 = .ok (.putfield 15, 3) := by decide +kernel
theorem dX0_takeDot_13 : decode cX0_takeDot 13 = .ok (.iconst 1, 1) := by decide +kernel
theorem dX0_takeDot_14 : decode cX0_takeDot 14 = .ok (.ireturn, 1) := by decide +kernel
set_option maxRecDepth 20000 in
theorem ggX0_takeSpeaker_X4_isSpeaker : GoodIn wsX0_takeSpeaker wsX4_isSpeaker := goodIn_r _ [6, 7, 8, 5, 9] (by decide +kernel) (by decide +kernel)
set_option maxRecDepth 20000 in
theorem gX0_takeSpeaker_X4_isSpeaker_n43 : GoodIn wsX0_takeSpeaker (wsX4_isSpeaker) := ggX0_takeSpeaker_X4_isSpeaker
theorem dX0_takeSpeaker_0 : decode cX0_takeSpeaker 0 = .ok (.iload_n 1, 1) := by decide +kernel
theorem dX0_takeSpeaker_1 : decode cX0_takeSpeaker 1 = .ok (.bipush 65, 2) := by decide +kernel
theorem dX0_takeSpeaker_3 : decode cX0_takeSpeaker 3 = .ok (.isub, 1) := by decide +kernel
theorem dX0_takeSpeaker_4 : decode cX0_takeSpeaker 4 = .ok (.invokestatic 43, 3) := by decide +kernel
theorem dX0_takeSpeaker_7 : decode cX0_takeSpeaker 7 = .ok (.ifCond .ne 5, 3) := by decide +kernel
theorem dX0_takeSpeaker_10 : decode cX0_takeSpeaker 10 = .ok (.iconst 0, 1) := by decide +kernel
theorem dX0_takeSpeaker_11 : decode cX0_takeSpeaker 11 = .ok (.ireturn, 1) := by decide +kernel
theorem dX0_takeSpeaker_12 : decode cX0_takeSpeaker 12 = .ok (.aload_n 0, 1) := by decide +kernel
theorem dX0_takeSpeaker_13 : decode cX0_takeSpeaker 13 = .ok (.iload_n 1, 1) := by decide +kernel
theorem dX0_takeSpeaker_14 : decode cX0_takeSpeaker 14 = .ok (.bipush 65, 2) := by decide +kernel
theorem dX0_takeSpeaker_16 : decode cX0_takeSpeaker 16 = .ok (.isub, 1) := by decide +kernel
theorem dX0_takeSpeaker_17 : decode cX0_takeSpeaker 17 = .ok (.putfield 18, 3) := by decide +kernel
theorem dX0_takeSpeaker_20 : decode cX0_takeSpeaker 20 = .ok (.aload_n 0, 1) := by decide +kernel
theorem dX0_takeSpeaker_21 : decode cX0_takeSpeaker 21 = .ok (.iconst 2, 1) := by decide +kernel
theorem dX0_takeSpeaker_22 : decode cX0_takeSpeaker 22 = .ok (.putfield 15, 3) := by decide +kernel
theorem dX0_takeSpeaker_25 : decode cX0_takeSpeaker 25 = .ok (.aload_n 0, 1) := by decide +kernel
theorem dX0_takeSpeaker_26 : decode cX0_takeSpeaker 26 = .ok (.iconst 1, 1) := by decide +kernel
theorem dX0_takeSpeaker_27 : decode cX0_takeSpeaker 27 = .ok (.putfield 11, 3) := by decide +kernel
theorem dX0_takeSpeaker_30 : decode cX0_takeSpeaker 30 = .ok (.iconst 1, 1) := by decide +kernel
theorem dX0_takeSpeaker_31 : decode cX0_takeSpeaker 31 = .ok (.ireturn, 1) := by decide +kernel
theorem dX0_takeMark_0 : decode cX0_takeMark 0 = .ok (.iload_n 1, 1) := by decide +kernel
theorem dX0_takeMark_1 : decode cX0_takeMark 1 = .ok (.lookupswitch 71 #[(43, 35), (45, 47), (62, 59)], 35) := by decide +kernel
theorem dX0_takeMark_36 : decode cX0_takeMark 36 = .ok (.aload_n 0, 1) := by decide +kernel
theorem dX0_takeMark_37 : decode cX0_takeMark 37 = .ok (.iconst 0, 1) := by decide +kernel
theorem dX0_takeMark_38 : decode cX0_takeMark 38 = .ok (.putfield 15, 3) := by decide +kernel
theorem dX0_takeMark_41 : decode cX0_takeMark 41 = .ok (.aload_n 0, 1) := by decide +kernel
theorem dX0_takeMark_42 : decode cX0_takeMark 42 = .ok (.iconst 3, 1) := by decide +kernel
theorem dX0_takeMark_43 : decode cX0_takeMark 43 = .ok (.putfield 11, 3) := by decide +kernel
theorem dX0_takeMark_46 : decode cX0_takeMark 46 = .ok (.iconst 1, 1) := by decide +kernel
theorem dX0_takeMark_47 : decode cX0_takeMark 47 = .ok (.ireturn, 1) := by decide +kernel
theorem dX0_takeMark_48 : decode cX0_takeMark 48 = .ok (.aload_n 0, 1) := by decide +kernel
theorem dX0_takeMark_49 : decode cX0_takeMark 49 = .ok (.iconst 1, 1) := by decide +kernel
theorem dX0_takeMark_50 : decode cX0_takeMark 50 = .ok (.putfield 15, 3) := by decide +kernel
theorem dX0_takeMark_53 : decode cX0_takeMark 53 = .ok (.aload_n 0, 1) := by decide +kernel
theorem dX0_takeMark_54 : decode cX0_takeMark 54 = .ok (.iconst 3, 1) := by decide +kernel
theorem dX0_takeMark_55 : decode cX0_takeMark 55 = .ok (.putfield 11, 3) := by decide +kernel
theorem dX0_takeMark_58 : decode cX0_takeMark 58 = .ok (.iconst 1, 1) := by decide +kernel
theorem dX0_takeMark_59 : decode cX0_takeMark 59 = .ok (.ireturn, 1) := by decide +kernel
theorem dX0_takeMark_60 : decode cX0_takeMark 60 = .ok (.aload_n 0, 1) := by decide +kernel
theorem dX0_takeMark_61 : decode cX0_takeMark 61 = .ok (.iconst 3, 1) := by decide +kernel
theorem dX0_takeMark_62 : decode cX0_takeMark 62 = .ok (.putfield 15, 3) := by decide +kernel
theorem dX0_takeMark_65 : decode cX0_takeMark 65 = .ok (.aload_n 0, 1) := by decide +kernel
theorem dX0_takeMark_66 : decode cX0_takeMark 66 = .ok (.iconst 2, 1) := by decide +kernel
theorem dX0_takeMark_67 : decode cX0_takeMark 67 = .ok (.putfield 11, 3) := by decide +kernel
theorem dX0_takeMark_70 : decode cX0_takeMark 70 = .ok (.iconst 1, 1) := by decide +kernel
theorem dX0_takeMark_71 : decode cX0_takeMark 71 = .ok (.ireturn, 1) := by decide +kernel
theorem dX0_takeMark_72 : decode cX0_takeMark 72 = .ok (.iconst 0, 1) := by decide +kernel
theorem dX0_takeMark_73 : decode cX0_takeMark 73 = .ok (.ireturn, 1) := by decide +kernel
set_option maxRecDepth 20000 in
theorem ggX0_takeOther_X4_isSpeaker : GoodIn wsX0_takeOther wsX4_isSpeaker := goodIn_r _ [5, 6, 7, 4, 8] (by decide +kernel) (by decide +kernel)
set_option maxRecDepth 20000 in
theorem gX0_takeOther_X4_isSpeaker_n43 : GoodIn wsX0_takeOther (wsX4_isSpeaker) := ggX0_takeOther_X4_isSpeaker
theorem dX0_takeOther_0 : decode cX0_takeOther 0 = .ok (.iload_n 1, 1) := by decide +kernel
theorem dX0_takeOther_1 : decode cX0_takeOther 1 = .ok (.bipush 65, 2) := by decide +kernel
theorem dX0_takeOther_3 : decode cX0_takeOther 3 = .ok (.isub, 1) := by decide +kernel
theorem dX0_takeOther_4 : decode cX0_takeOther 4 = .ok (.invokestatic 43, 3) := by decide +kernel
theorem dX0_takeOther_7 : decode cX0_takeOther 7 = .ok (.ifCond .ne 5, 3) := by decide +kernel
theorem dX0_takeOther_10 : decode cX0_takeOther 10 = .ok (.iconst 0, 1) := by decide +kernel
theorem dX0_takeOther_11 : decode cX0_takeOther 11 = .ok (.ireturn, 1) := by decide +kernel
theorem dX0_takeOther_12 : decode cX0_takeOther 12 = .ok (.aload_n 0, 1) := by decide +kernel
theorem dX0_takeOther_13 : decode cX0_takeOther 13 = .ok (.iload_n 1, 1) := by decide +kernel
theorem dX0_takeOther_14 : decode cX0_takeOther 14 = .ok (.bipush 65, 2) := by decide +kernel
theorem dX0_takeOther_16 : decode cX0_takeOther 16 = .ok (.isub, 1) := by decide +kernel
theorem dX0_takeOther_17 : decode cX0_takeOther 17 = .ok (.putfield 24, 3) := by decide +kernel
theorem dX0_takeOther_20 : decode cX0_takeOther 20 = .ok (.aload_n 0, 1) := by decide +kernel
theorem dX0_takeOther_21 : decode cX0_takeOther 21 = .ok (.iconst 3, 1) := by decide +kernel
theorem dX0_takeOther_22 : decode cX0_takeOther 22 = .ok (.putfield 11, 3) := by decide +kernel
theorem dX0_takeOther_25 : decode cX0_takeOther 25 = .ok (.iconst 1, 1) := by decide +kernel
theorem dX0_takeOther_26 : decode cX0_takeOther 26 = .ok (.ireturn, 1) := by decide +kernel
set_option maxRecDepth 20000 in
theorem ggX0_takeWord_X4_isWord : GoodIn wsX0_takeWord wsX4_isWord := goodIn_r _ [5, 6, 7, 4, 8] (by decide +kernel) (by decide +kernel)
set_option maxRecDepth 20000 in
theorem gX0_takeWord_X4_isWord_n46 : GoodIn wsX0_takeWord (wsX4_isWord) := ggX0_takeWord_X4_isWord
theorem dX0_takeWord_0 : decode cX0_takeWord 0 = .ok (.iload_n 1, 1) := by decide +kernel
theorem dX0_takeWord_1 : decode cX0_takeWord 1 = .ok (.bipush 97, 2) := by decide +kernel
theorem dX0_takeWord_3 : decode cX0_takeWord 3 = .ok (.isub, 1) := by decide +kernel
theorem dX0_takeWord_4 : decode cX0_takeWord 4 = .ok (.invokestatic 46, 3) := by decide +kernel
theorem dX0_takeWord_7 : decode cX0_takeWord 7 = .ok (.ifCond .ne 5, 3) := by decide +kernel
theorem dX0_takeWord_10 : decode cX0_takeWord 10 = .ok (.iconst 0, 1) := by decide +kernel
theorem dX0_takeWord_11 : decode cX0_takeWord 11 = .ok (.ireturn, 1) := by decide +kernel
theorem dX0_takeWord_12 : decode cX0_takeWord 12 = .ok (.aload_n 0, 1) := by decide +kernel
theorem dX0_takeWord_13 : decode cX0_takeWord 13 = .ok (.iload_n 1, 1) := by decide +kernel
theorem dX0_takeWord_14 : decode cX0_takeWord 14 = .ok (.bipush 97, 2) := by decide +kernel
theorem dX0_takeWord_16 : decode cX0_takeWord 16 = .ok (.isub, 1) := by decide +kernel
theorem dX0_takeWord_17 : decode cX0_takeWord 17 = .ok (.putfield 21, 3) := by decide +kernel
theorem dX0_takeWord_20 : decode cX0_takeWord 20 = .ok (.aload_n 0, 1) := by decide +kernel
theorem dX0_takeWord_21 : decode cX0_takeWord 21 = .ok (.iconst 0, 1) := by decide +kernel
theorem dX0_takeWord_22 : decode cX0_takeWord 22 = .ok (.putfield 11, 3) := by decide +kernel
theorem dX0_takeWord_25 : decode cX0_takeWord 25 = .ok (.iconst 1, 1) := by decide +kernel
theorem dX0_takeWord_26 : decode cX0_takeWord 26 = .ok (.ireturn, 1) := by decide +kernel
set_option maxRecDepth 20000 in
theorem ggX1_init_X3_init : GoodIn wsX1_init wsX3_init := goodIn_r _ [25, 26, 2, 3, 27, 28, 29, 30, 31, 32, 33, 34, 35, 36, 37, 38, 52, 53, 54, 55, 56, 57, 58, 59, 60, 61, 62] (by decide +kernel) (by decide +kernel)
set_option maxRecDepth 20000 in
theorem gX1_init_X3_init_n11 : GoodIn wsX1_init (wsX3_init) := ggX1_init_X3_init
set_option maxRecDepth 20000 in
theorem ggX1_init_X0_init : GoodIn wsX1_init wsX0_init := goodIn_r _ [40, 41, 2, 3, 42, 43, 44, 45, 46, 74, 75, 76, 77, 78] (by decide +kernel) (by decide +kernel)
set_option maxRecDepth 20000 in
theorem gX1_init_X0_init_n20 : GoodIn wsX1_init (wsX0_init) := ggX1_init_X0_init
set_option maxRecDepth 20000 in
theorem ggX1_init_X2_init : GoodIn wsX1_init wsX2_init := goodIn_r _ [48, 49, 2, 3, 50, 51, 79, 80] (by decide +kernel) (by decide +kernel)
set_option maxRecDepth 20000 in
theorem gX1_init_X2_init_n27 : GoodIn wsX1_init (wsX2_init) := ggX1_init_X2_init
theorem dX1_init_0 : decode cX1_init 0 = .ok (.aload_n 0, 1) := by decide +kernel
theorem dX1_init_1 : decode cX1_init 1 = .ok (.invokespecial 3, 3) := by decide +kernel
theorem dX1_init_4 : decode cX1_init 4 = .ok (.aload_n 0, 1) := by decide +kernel
theorem dX1_init_5 : decode cX1_init 5 = .ok (.new 9, 3) := by decide +kernel
theorem dX1_init_8 : decode cX1_init 8 = .ok (.dup, 1) := by decide +kernel
theorem dX1_init_9 : decode cX1_init 9 = .ok (.invokespecial 11, 3) := by decide +kernel
theorem dX1_init_12 : decode cX1_init 12 = .ok (.putfield 12, 3) := by decide +kernel
theorem dX1_init_15 : decode cX1_init 15 = .ok (.aload_n 0, 1) := by decide +kernel
theorem dX1_init_16 : decode cX1_init 16 = .ok (.new 18, 3) := by decide +kernel
theorem dX1_init_19 : decode cX1_init 19 = .ok (.dup, 1) := by decide +kernel
theorem dX1_init_20 : decode cX1_init 20 = .ok (.invokespecial 20, 3) := by decide +kernel
theorem dX1_init_23 : decode cX1_init 23 = .ok (.putfield 21, 3) := by decide +kernel
theorem dX1_init_26 : decode cX1_init 26 = .ok (.aload_n 0, 1) := by decide +kernel
theorem dX1_init_27 : decode cX1_init 27 = .ok (.new 25, 3) := by decide +kernel
theorem dX1_init_30 : decode cX1_init 30 = .ok (.dup, 1) := by decide +kernel
theorem dX1_init_31 : decode cX1_init 31 = .ok (.invokespecial 27, 3) := by decide +kernel
theorem dX1_init_34 : decode cX1_init 34 = .ok (.putfield 28, 3) := by decide +kernel
theorem dX1_init_37 : decode cX1_init 37 = .ok (.aload_n 0, 1) := by decide +kernel
theorem dX1_init_38 : decode cX1_init 38 = .ok (.iconst 0, 1) := by decide +kernel
theorem dX1_init_39 : decode cX1_init 39 = .ok (.putfield 32, 3) := by decide +kernel
theorem dX1_init_42 : decode cX1_init 42 = .ok (.aload_n 0, 1) := by decide +kernel
theorem dX1_init_43 : decode cX1_init 43 = .ok (.iconst 0, 1) := by decide +kernel
theorem dX1_init_44 : decode cX1_init 44 = .ok (.putfield 36, 3) := by decide +kernel
theorem dX1_init_47 : decode cX1_init 47 = .ok (.aload_n 0, 1) := by decide +kernel
theorem dX1_init_48 : decode cX1_init 48 = .ok (.iconst 0, 1) := by decide +kernel
theorem dX1_init_49 : decode cX1_init 49 = .ok (.putfield 39, 3) := by decide +kernel
theorem dX1_init_52 : decode cX1_init 52 = .ok (.aload_n 0, 1) := by decide +kernel
theorem dX1_init_53 : decode cX1_init 53 = .ok (.iconst 0, 1) := by decide +kernel
theorem dX1_init_54 : decode cX1_init 54 = .ok (.putfield 42, 3) := by decide +kernel
theorem dX1_init_57 : decode cX1_init 57 = .ok (.aload_n 0, 1) := by decide +kernel
theorem dX1_init_58 : decode cX1_init 58 = .ok (.iconst 0, 1) := by decide +kernel
theorem dX1_init_59 : decode cX1_init 59 = .ok (.putfield 45, 3) := by decide +kernel
theorem dX1_init_62 : decode cX1_init 62 = .ok (.aload_n 0, 1) := by decide +kernel
theorem dX1_init_63 : decode cX1_init 63 = .ok (.iconst 0, 1) := by decide +kernel
theorem dX1_init_64 : decode cX1_init 64 = .ok (.putfield 48, 3) := by decide +kernel
theorem dX1_init_67 : decode cX1_init 67 = .ok (.aload_n 0, 1) := by decide +kernel
theorem dX1_init_68 : decode cX1_init 68 = .ok (.bipush (-6), 2) := by decide +kernel
theorem dX1_init_70 : decode cX1_init 70 = .ok (.putfield 51, 3) := by decide +kernel
theorem dX1_init_73 : decode cX1_init 73 = .ok (.aload_n 0, 1) := by decide +kernel
theorem dX1_init_74 : decode cX1_init 74 = .ok (.iconst (-1), 1) := by decide +kernel
theorem dX1_init_75 : decode cX1_init 75 = .ok (.putfield 54, 3) := by decide +kernel
theorem dX1_init_78 : decode cX1_init 78 = .ok (.return_, 1) := by decide +kernel
set_option maxRecDepth 20000 in
theorem ggX1_readAll_X1_begin : GoodIn wsX1_readAll wsX1_begin := goodIn_r _ [8, 9, 1, 10, 11, 3, 12, 13, 14, 15, 16, 17, 18, 19, 20, 21, 22, 23, 24, 25, 26, 27, 28, 29, 30, 31, 32, 33, 34, 35, 36, 37, 38, 39, 40, 41, 42, 43, 44, 134, 135, 136, 137, 138, 139, 140, 141, 142, 143, 144, 145, 146, 147, 148, 149, 150, 151, 152, 153, 154, 155, 156, 157, 158, 159, 160, 161, 162] (by decide +kernel) (by decide +kernel)
set_option maxRecDepth 20000 in
theorem gX1_readAll_X1_begin : GoodIn wsX1_readAll (wsV RX1 57 RX1 yX1_begin wsX1_begin) := goodIn_app (goodIn_of _ (by decide +kernel)) ggX1_readAll_X1_begin
set_option maxRecDepth 20000 in
theorem ggX1_readAll_X0_take : GoodIn wsX1_readAll wsX0_take := goodIn_r _ [47, 38, 48, 49, 50, 35, 51, 52, 53, 54, 55, 56, 57, 58, 32, 59, 60, 61, 62, 63, 64, 65, 66, 67, 68, 69, 70, 71, 72, 73, 74, 75, 76, 77, 78, 156, 157, 158, 159, 160] (by decide +kernel) (by decide +kernel)
set_option maxRecDepth 20000 in
theorem gX1_readAll_X0_take_n61 : GoodIn wsX1_readAll (wsX0_take) := ggX1_readAll_X0_take
set_option maxRecDepth 20000 in
theorem ggX1_readAll_X0_isBetweenActs : GoodIn wsX1_readAll wsX0_isBetweenActs := goodIn_r _ [81, 38, 156, 157, 158, 159, 160] (by decide +kernel) (by decide +kernel)
set_option maxRecDepth 20000 in
theorem gX1_readAll_X0_isBetweenActs_n65 : GoodIn wsX1_readAll (wsX0_isBetweenActs) := ggX1_readAll_X0_isBetweenActs
set_option maxRecDepth 20000 in
theorem ggX1_readAll_X1_doAct : GoodIn wsX1_readAll wsX1_doAct := goodIn_r _ [85, 3, 1, 11, 86, 87, 88, 89, 7, 90, 10, 12, 91, 40, 92, 93, 43, 39, 41, 42, 44, 94, 95, 96, 97, 9, 72, 32, 73, 60, 61, 62, 98, 17, 99, 100, 58, 59, 101, 102, 103, 104, 24, 23, 20, 105, 106, 107, 108, 109, 110, 111, 112, 113, 114, 115, 116, 117, 118, 119, 120, 121, 122, 123, 124, 125, 126, 15, 14, 13, 127, 128, 129, 130, 131, 132, 133, 134, 135, 136, 137, 138, 139, 140, 141, 142, 143, 144, 156, 157, 158, 159, 160, 161, 162, 145, 146, 147, 148, 149, 150, 151, 152, 153, 154, 155] (by decide +kernel) (by decide +kernel)
set_option maxRecDepth 20000 in
theorem gX1_readAll_X1_doAct : GoodIn wsX1_readAll (wsV RX1 69 RX1 yX1_doAct wsX1_doAct) := goodIn_app (goodIn_of _ (by decide +kernel)) ggX1_readAll_X1_doAct
theorem dX1_readAll_0 : decode cX1_readAll 0 = .ok (.aload_n 0, 1) := by decide +kernel
theorem dX1_readAll_1 : decode cX1_readAll 1 = .ok (.aload_n 3, 1) := by decide +kernel
theorem dX1_readAll_2 : decode cX1_readAll 2 = .ok (.invokevirtual 57, 3) := by decide +kernel
theorem dX1_readAll_5 : decode cX1_readAll 5 = .ok (.iconst 0, 1) := by decide +kernel
theorem dX1_readAll_6 : decode cX1_readAll 6 = .ok (.istore 4, 2) := by decide +kernel
theorem dX1_readAll_8 : decode cX1_readAll 8 = .ok (.iload 4, 2) := by decide +kernel
theorem dX1_readAll_10 : decode cX1_readAll 10 = .ok (.iload_n 2, 1) := by decide +kernel
theorem dX1_readAll_11 : decode cX1_readAll 11 = .ok (.if_icmp .ge 53, 3) := by decide +kernel
theorem dX1_readAll_14 : decode cX1_readAll 14 = .ok (.iload 4, 2) := by decide +kernel
theorem dX1_readAll_16 : decode cX1_readAll 16 = .ok (.aload_n 1, 1) := by decide +kernel
theorem dX1_readAll_17 : decode cX1_readAll 17 = .ok (.arraylength, 1) := by decide +kernel
theorem dX1_readAll_18 : decode cX1_readAll 18 = .ok (.if_icmp .ge 46, 3) := by decide +kernel
theorem dX1_readAll_21 : decode cX1_readAll 21 = .ok (.aload_n 0, 1) := by decide +kernel
theorem dX1_readAll_22 : decode cX1_readAll 22 = .ok (.getfield 21, 3) := by decide +kernel
theorem dX1_readAll_25 : decode cX1_readAll 25 = .ok (.aload_n 1, 1) := by decide +kernel
theorem dX1_readAll_26 : decode cX1_readAll 26 = .ok (.iload 4, 2) := by decide +kernel
theorem dX1_readAll_28 : decode cX1_readAll 28 = .ok (.iaload, 1) := by decide +kernel
theorem dX1_readAll_29 : decode cX1_readAll 29 = .ok (.invokevirtual 61, 3) := by decide +kernel
theorem dX1_readAll_32 : decode cX1_readAll 32 = .ok (.ifCond .ne 12, 3) := by decide +kernel
theorem dX1_readAll_35 : decode cX1_readAll 35 = .ok (.aload_n 0, 1) := by decide +kernel
theorem dX1_readAll_36 : decode cX1_readAll 36 = .ok (.iload 4, 2) := by decide +kernel
theorem dX1_readAll_38 : decode cX1_readAll 38 = .ok (.putfield 32, 3) := by decide +kernel
theorem dX1_readAll_41 : decode cX1_readAll 41 = .ok (.bipush (-5), 2) := by decide +kernel
theorem dX1_readAll_43 : decode cX1_readAll 43 = .ok (.ireturn, 1) := by decide +kernel
theorem dX1_readAll_44 : decode cX1_readAll 44 = .ok (.aload_n 0, 1) := by decide +kernel
theorem dX1_readAll_45 : decode cX1_readAll 45 = .ok (.getfield 21, 3) := by decide +kernel
theorem dX1_readAll_48 : decode cX1_readAll 48 = .ok (.invokevirtual 65, 3) := by decide +kernel
theorem dX1_readAll_51 : decode cX1_readAll 51 = .ok (.ifCond .eq 7, 3) := by decide +kernel
theorem dX1_readAll_54 : decode cX1_readAll 54 = .ok (.aload_n 0, 1) := by decide +kernel
theorem dX1_readAll_55 : decode cX1_readAll 55 = .ok (.invokevirtual 69, 3) := by decide +kernel
theorem dX1_readAll_58 : decode cX1_readAll 58 = .ok (.iinc 4 1, 3) := by decide +kernel
theorem dX1_readAll_61 : decode cX1_readAll 61 = .ok (.goto (-53), 3) := by decide +kernel
theorem dX1_readAll_64 : decode cX1_readAll 64 = .ok (.aload_n 0, 1) := by decide +kernel
theorem dX1_readAll_65 : decode cX1_readAll 65 = .ok (.getfield 21, 3) := by decide +kernel
theorem dX1_readAll_68 : decode cX1_readAll 68 = .ok (.invokevirtual 65, 3) := by decide +kernel
theorem dX1_readAll_71 : decode cX1_readAll 71 = .ok (.ifCond .ne 11, 3) := by decide +kernel
theorem dX1_readAll_74 : decode cX1_readAll 74 = .ok (.aload_n 0, 1) := by decide +kernel
theorem dX1_readAll_75 : decode cX1_readAll 75 = .ok (.iload_n 2, 1) := by decide +kernel
theorem dX1_readAll_76 : decode cX1_readAll 76 = .ok (.putfield 32, 3) := by decide +kernel
theorem dX1_readAll_79 : decode cX1_readAll 79 = .ok (.bipush (-5), 2) := by decide +kernel
theorem dX1_readAll_81 : decode cX1_readAll 81 = .ok (.ireturn, 1) := by decide +kernel
theorem dX1_readAll_82 : decode cX1_readAll 82 = .ok (.aload_n 0, 1) := by decide +kernel
theorem dX1_readAll_83 : decode cX1_readAll 83 = .ok (.getfield 42, 3) := by decide +kernel
theorem dX1_readAll_86 : decode cX1_readAll 86 = .ok (.ifCond .ne 7, 3) := by decide +kernel
theorem dX1_readAll_89 : decode cX1_readAll 89 = .ok (.iconst 0, 1) := by decide +kernel
theorem dX1_readAll_90 : decode cX1_readAll 90 = .ok (.goto 5, 3) := by decide +kernel
theorem dX1_readAll_93 : decode cX1_readAll 93 = .ok (.bipush (-3), 2) := by decide +kernel
theorem dX1_readAll_95 : decode cX1_readAll 95 = .ok (.ireturn, 1) := by decide +kernel
set_option maxRecDepth 20000 in
theorem ggX1_begin_X3_copyFrom : GoodIn wsX1_begin wsX3_copyFrom := goodIn_r _ [13, 14, 15, 16, 17, 18, 19, 20, 21, 22, 23, 24, 25, 26, 27, 50, 51, 52, 53, 54, 55, 56, 57, 58, 59, 60] (by decide +kernel) (by decide +kernel)
set_option maxRecDepth 20000 in
theorem gX1_begin_X3_copyFrom_n72 : GoodIn wsX1_begin (wsX3_copyFrom) := ggX1_begin_X3_copyFrom
set_option maxRecDepth 20000 in
theorem ggX1_begin_X0_begin : GoodIn wsX1_begin wsX0_begin := goodIn_r _ [31, 32, 61, 62, 63, 64, 65] (by decide +kernel) (by decide +kernel)
set_option maxRecDepth 20000 in
theorem gX1_begin_X0_begin_n75 : GoodIn wsX1_begin (wsX0_begin) := ggX1_begin_X0_begin
set_option maxRecDepth 20000 in
theorem ggX1_begin_X2_begin : GoodIn wsX1_begin wsX2_begin := goodIn_r _ [36, 37, 38, 66, 67] (by decide +kernel) (by decide +kernel)
set_option maxRecDepth 20000 in
theorem gX1_begin_X2_begin_n77 : GoodIn wsX1_begin (wsX2_begin) := ggX1_begin_X2_begin
theorem dX1_begin_0 : decode cX1_begin 0 = .ok (.aload_n 0, 1) := by decide +kernel
theorem dX1_begin_1 : decode cX1_begin 1 = .ok (.getfield 12, 3) := by decide +kernel
theorem dX1_begin_4 : decode cX1_begin 4 = .ok (.aload_n 1, 1) := by decide +kernel
theorem dX1_begin_5 : decode cX1_begin 5 = .ok (.invokevirtual 72, 3) := by decide +kernel
theorem dX1_begin_8 : decode cX1_begin 8 = .ok (.aload_n 0, 1) := by decide +kernel
theorem dX1_begin_9 : decode cX1_begin 9 = .ok (.getfield 21, 3) := by decide +kernel
theorem dX1_begin_12 : decode cX1_begin 12 = .ok (.invokevirtual 75, 3) := by decide +kernel
theorem dX1_begin_15 : decode cX1_begin 15 = .ok (.aload_n 0, 1) := by decide +kernel
theorem dX1_begin_16 : decode cX1_begin 16 = .ok (.getfield 28, 3) := by decide +kernel
theorem dX1_begin_19 : decode cX1_begin 19 = .ok (.invokevirtual 77, 3) := by decide +kernel
theorem dX1_begin_22 : decode cX1_begin 22 = .ok (.aload_n 0, 1) := by decide +kernel
theorem dX1_begin_23 : decode cX1_begin 23 = .ok (.iconst 0, 1) := by decide +kernel
theorem dX1_begin_24 : decode cX1_begin 24 = .ok (.putfield 36, 3) := by decide +kernel
theorem dX1_begin_27 : decode cX1_begin 27 = .ok (.aload_n 0, 1) := by decide +kernel
theorem dX1_begin_28 : decode cX1_begin 28 = .ok (.iconst 0, 1) := by decide +kernel
theorem dX1_begin_29 : decode cX1_begin 29 = .ok (.putfield 42, 3) := by decide +kernel
theorem dX1_begin_32 : decode cX1_begin 32 = .ok (.aload_n 0, 1) := by decide +kernel
theorem dX1_begin_33 : decode cX1_begin 33 = .ok (.iconst 0, 1) := by decide +kernel
theorem dX1_begin_34 : decode cX1_begin 34 = .ok (.putfield 45, 3) := by decide +kernel
theorem dX1_begin_37 : decode cX1_begin 37 = .ok (.aload_n 0, 1) := by decide +kernel
theorem dX1_begin_38 : decode cX1_begin 38 = .ok (.iconst 0, 1) := by decide +kernel
theorem dX1_begin_39 : decode cX1_begin 39 = .ok (.putfield 48, 3) := by decide +kernel
theorem dX1_begin_42 : decode cX1_begin 42 = .ok (.aload_n 0, 1) := by decide +kernel
theorem dX1_begin_43 : decode cX1_begin 43 = .ok (.bipush (-6), 2) := by decide +kernel
theorem dX1_begin_45 : decode cX1_begin 45 = .ok (.putfield 51, 3) := by decide +kernel
theorem dX1_begin_48 : decode cX1_begin 48 = .ok (.aload_n 0, 1) := by decide +kernel
theorem dX1_begin_49 : decode cX1_begin 49 = .ok (.iconst (-1), 1) := by decide +kernel
theorem dX1_begin_50 : decode cX1_begin 50 = .ok (.putfield 54, 3) := by decide +kernel
theorem dX1_begin_53 : decode cX1_begin 53 = .ok (.return_, 1) := by decide +kernel
set_option maxRecDepth 20000 in
theorem ggX1_doAct_X1_endSentence : GoodIn wsX1_doAct wsX1_endSentence := goodIn_r _ [9, 10, 11, 12, 13, 14, 15, 16, 17, 18, 19, 20, 77, 78, 79, 80, 81, 82, 83, 84, 85, 86, 87, 93, 94] (by decide +kernel) (by decide +kernel)
set_option maxRecDepth 20000 in
theorem gX1_doAct_X1_endSentence : GoodIn wsX1_doAct (wsV RX1 81 RX1 yX1_endSentence wsX1_endSentence) := goodIn_app (goodIn_of _ (by decide +kernel)) ggX1_doAct_X1_endSentence
set_option maxRecDepth 20000 in
theorem ggX1_doAct_X1_doWordAct : GoodIn wsX1_doAct wsX1_doWordAct := goodIn_r _ [24, 25, 2, 10, 26, 27, 28, 29, 30, 31, 32, 33, 34, 35, 36, 37, 38, 39, 40, 41, 42, 43, 44, 45, 46, 47, 48, 49, 50, 51, 52, 53, 54, 55, 56, 57, 58, 59, 60, 61, 62, 63, 64, 65, 8, 66, 67, 68, 69, 70, 13, 71, 72, 16, 20, 73, 74, 75, 76, 77, 78, 79, 80, 81, 82, 83, 84, 85, 86, 87, 95, 96, 97, 98, 99, 100, 101, 102, 103, 104, 105, 88, 89, 90, 91, 92, 93, 94] (by decide +kernel) (by decide +kernel)
set_option maxRecDepth 20000 in
theorem gX1_doAct_X1_doWordAct : GoodIn wsX1_doAct (wsV RX1 88 RX1 yX1_doWordAct wsX1_doWordAct) := goodIn_app (goodIn_of _ (by decide +kernel)) ggX1_doAct_X1_doWordAct
theorem dX1_doAct_0 : decode cX1_doAct 0 = .ok (.aload_n 0, 1) := by decide +kernel
theorem dX1_doAct_1 : decode cX1_doAct 1 = .ok (.getfield 42, 3) := by decide +kernel
theorem dX1_doAct_4 : decode cX1_doAct 4 = .ok (.ifCond .ne 51, 3) := by decide +kernel
theorem dX1_doAct_7 : decode cX1_doAct 7 = .ok (.aload_n 0, 1) := by decide +kernel
theorem dX1_doAct_8 : decode cX1_doAct 8 = .ok (.aload_n 0, 1) := by decide +kernel
theorem dX1_doAct_9 : decode cX1_doAct 9 = .ok (.getfield 21, 3) := by decide +kernel
theorem dX1_doAct_12 : decode cX1_doAct 12 = .ok (.getfield 78, 3) := by decide +kernel
theorem dX1_doAct_15 : decode cX1_doAct 15 = .ok (.iconst 4, 1) := by decide +kernel
theorem dX1_doAct_16 : decode cX1_doAct 16 = .ok (.if_icmp .ne 10, 3) := by decide +kernel
theorem dX1_doAct_19 : decode cX1_doAct 19 = .ok (.aload_n 0, 1) := by decide +kernel
theorem dX1_doAct_20 : decode cX1_doAct 20 = .ok (.invokevirtual 81, 3) := by decide +kernel
theorem dX1_doAct_23 : decode cX1_doAct 23 = .ok (.goto 14, 3) := by decide +kernel
theorem dX1_doAct_26 : decode cX1_doAct 26 = .ok (.aload_n 0, 1) := by decide +kernel
theorem dX1_doAct_27 : decode cX1_doAct 27 = .ok (.aload_n 0, 1) := by decide +kernel
theorem dX1_doAct_28 : decode cX1_doAct 28 = .ok (.getfield 21, 3) := by decide +kernel
theorem dX1_doAct_31 : decode cX1_doAct 31 = .ok (.getfield 85, 3) := by decide +kernel
theorem dX1_doAct_34 : decode cX1_doAct 34 = .ok (.invokevirtual 88, 3) := by decide +kernel
theorem dX1_doAct_37 : decode cX1_doAct 37 = .ok (.putfield 42, 3) := by decide +kernel
theorem dX1_doAct_40 : decode cX1_doAct 40 = .ok (.aload_n 0, 1) := by decide +kernel
theorem dX1_doAct_41 : decode cX1_doAct 41 = .ok (.getfield 42, 3) := by decide +kernel
theorem dX1_doAct_44 : decode cX1_doAct 44 = .ok (.ifCond .eq 11, 3) := by decide +kernel
theorem dX1_doAct_47 : decode cX1_doAct 47 = .ok (.aload_n 0, 1) := by decide +kernel
theorem dX1_doAct_48 : decode cX1_doAct 48 = .ok (.aload_n 0, 1) := by decide +kernel
theorem dX1_doAct_49 : decode cX1_doAct 49 = .ok (.getfield 36, 3) := by decide +kernel
theorem dX1_doAct_52 : decode cX1_doAct 52 = .ok (.putfield 39, 3) := by decide +kernel
theorem dX1_doAct_55 : decode cX1_doAct 55 = .ok (.aload_n 0, 1) := by decide +kernel
theorem dX1_doAct_56 : decode cX1_doAct 56 = .ok (.dup, 1) := by decide +kernel
theorem dX1_doAct_57 : decode cX1_doAct 57 = .ok (.getfield 36, 3) := by decide +kernel
theorem dX1_doAct_60 : decode cX1_doAct 60 = .ok (.iconst 1, 1) := by decide +kernel
theorem dX1_doAct_61 : decode cX1_doAct 61 = .ok (.iadd, 1) := by decide +kernel
theorem dX1_doAct_62 : decode cX1_doAct 62 = .ok (.putfield 36, 3) := by decide +kernel
theorem dX1_doAct_65 : decode cX1_doAct 65 = .ok (.return_, 1) := by decide +kernel
set_option maxRecDepth 20000 in
theorem ggX1_endSentence_X2_isSentence : GoodIn wsX1_endSentence wsX2_isSentence := goodIn_r _ [6, 7, 23, 24] (by decide +kernel) (by decide +kernel)
set_option maxRecDepth 20000 in
theorem gX1_endSentence_X2_isSentence_n92 : GoodIn wsX1_endSentence (wsX2_isSentence) := ggX1_endSentence_X2_isSentence
set_option maxRecDepth 20000 in
theorem ggX1_endSentence_X2_begin : GoodIn wsX1_endSentence wsX2_begin := goodIn_r _ [10, 7, 11, 23, 24] (by decide +kernel) (by decide +kernel)
set_option maxRecDepth 20000 in
theorem gX1_endSentence_X2_begin_n77 : GoodIn wsX1_endSentence (wsX2_begin) := ggX1_endSentence_X2_begin
theorem dX1_endSentence_0 : decode cX1_endSentence 0 = .ok (.aload_n 0, 1) := by decide +kernel
theorem dX1_endSentence_1 : decode cX1_endSentence 1 = .ok (.getfield 28, 3) := by decide +kernel
theorem dX1_endSentence_4 : decode cX1_endSentence 4 = .ok (.invokevirtual 92, 3) := by decide +kernel
theorem dX1_endSentence_7 : decode cX1_endSentence 7 = .ok (.ifCond .ne 5, 3) := by decide +kernel
theorem dX1_endSentence_10 : decode cX1_endSentence 10 = .ok (.iconst 5, 1) := by decide +kernel
theorem dX1_endSentence_11 : decode cX1_endSentence 11 = .ok (.ireturn, 1) := by decide +kernel
theorem dX1_endSentence_12 : decode cX1_endSentence 12 = .ok (.aload_n 0, 1) := by decide +kernel
theorem dX1_endSentence_13 : decode cX1_endSentence 13 = .ok (.dup, 1) := by decide +kernel
theorem dX1_endSentence_14 : decode cX1_endSentence 14 = .ok (.getfield 45, 3) := by decide +kernel
theorem dX1_endSentence_17 : decode cX1_endSentence 17 = .ok (.iconst 1, 1) := by decide +kernel
theorem dX1_endSentence_18 : decode cX1_endSentence 18 = .ok (.iadd, 1) := by decide +kernel
theorem dX1_endSentence_19 : decode cX1_endSentence 19 = .ok (.putfield 45, 3) := by decide +kernel
theorem dX1_endSentence_22 : decode cX1_endSentence 22 = .ok (.aload_n 0, 1) := by decide +kernel
theorem dX1_endSentence_23 : decode cX1_endSentence 23 = .ok (.getfield 28, 3) := by decide +kernel
theorem dX1_endSentence_26 : decode cX1_endSentence 26 = .ok (.invokevirtual 77, 3) := by decide +kernel
theorem dX1_endSentence_29 : decode cX1_endSentence 29 = .ok (.iconst 0, 1) := by decide +kernel
theorem dX1_endSentence_30 : decode cX1_endSentence 30 = .ok (.ireturn, 1) := by decide +kernel
set_option maxRecDepth 20000 in
theorem ggX1_doWordAct_X4_isWord : GoodIn wsX1_doWordAct wsX4_isWord := goodIn_r _ [6, 7, 8, 5, 9] (by decide +kernel) (by decide +kernel)
set_option maxRecDepth 20000 in
theorem gX1_doWordAct_X4_isWord_n95 : GoodIn wsX1_doWordAct (wsX4_isWord) := ggX1_doWordAct_X4_isWord
set_option maxRecDepth 20000 in
theorem ggX1_doWordAct_X3_perform : GoodIn wsX1_doWordAct wsX3_perform := goodIn_r _ [13, 14, 5, 15, 7, 8, 9, 4, 6, 16, 17, 18, 11, 19, 20, 21, 22, 23, 24, 25, 26, 27, 28, 29, 30, 31, 32, 33, 34, 35, 36, 37, 38, 39, 40, 70, 71, 72, 73, 74, 75, 76, 77, 78, 79, 80] (by decide +kernel) (by decide +kernel)
set_option maxRecDepth 20000 in
theorem gX1_doWordAct_X3_perform_n108 : GoodIn wsX1_doWordAct (wsX3_perform) := ggX1_doWordAct_X3_perform
set_option maxRecDepth 20000 in
theorem ggX1_doWordAct_X1_noteSpoken : GoodIn wsX1_doWordAct wsX1_noteSpoken := goodIn_r _ [45, 46, 47, 48, 59, 60, 61, 62, 63, 64, 65, 66, 67, 68, 69] (by decide +kernel) (by decide +kernel)
set_option maxRecDepth 20000 in
theorem gX1_doWordAct_X1_noteSpoken : GoodIn wsX1_doWordAct (wsV RX1 112 RX1 yX1_noteSpoken wsX1_noteSpoken) := goodIn_app (goodIn_of _ (by decide +kernel)) ggX1_doWordAct_X1_noteSpoken
set_option maxRecDepth 20000 in
theorem ggX1_doWordAct_X2_add : GoodIn wsX1_doWordAct wsX2_add := goodIn_r _ [52, 53, 54, 55, 56, 57, 50, 58, 86, 87] (by decide +kernel) (by decide +kernel)
set_option maxRecDepth 20000 in
theorem gX1_doWordAct_X2_add_n119 : GoodIn wsX1_doWordAct (wsX2_add) := ggX1_doWordAct_X2_add
theorem dX1_doWordAct_0 : decode cX1_doWordAct 0 = .ok (.iload_n 1, 1) := by decide +kernel
theorem dX1_doWordAct_1 : decode cX1_doWordAct 1 = .ok (.invokestatic 95, 3) := by decide +kernel
theorem dX1_doWordAct_4 : decode cX1_doWordAct 4 = .ok (.ifCond .ne 5, 3) := by decide +kernel
theorem dX1_doWordAct_7 : decode cX1_doWordAct 7 = .ok (.iconst 2, 1) := by decide +kernel
theorem dX1_doWordAct_8 : decode cX1_doWordAct 8 = .ok (.ireturn, 1) := by decide +kernel
theorem dX1_doWordAct_9 : decode cX1_doWordAct 9 = .ok (.aload_n 0, 1) := by decide +kernel
theorem dX1_doWordAct_10 : decode cX1_doWordAct 10 = .ok (.getfield 12, 3) := by decide +kernel
theorem dX1_doWordAct_13 : decode cX1_doWordAct 13 = .ok (.getfield 98, 3) := by decide +kernel
theorem dX1_doWordAct_16 : decode cX1_doWordAct 16 = .ok (.iload_n 1, 1) := by decide +kernel
theorem dX1_doWordAct_17 : decode cX1_doWordAct 17 = .ok (.iaload, 1) := by decide +kernel
theorem dX1_doWordAct_18 : decode cX1_doWordAct 18 = .ok (.istore_n 2, 1) := by decide +kernel
theorem dX1_doWordAct_19 : decode cX1_doWordAct 19 = .ok (.aload_n 0, 1) := by decide +kernel
theorem dX1_doWordAct_20 : decode cX1_doWordAct 20 = .ok (.getfield 12, 3) := by decide +kernel
theorem dX1_doWordAct_23 : decode cX1_doWordAct 23 = .ok (.aload_n 0, 1) := by decide +kernel
theorem dX1_doWordAct_24 : decode cX1_doWordAct 24 = .ok (.getfield 21, 3) := by decide +kernel
theorem dX1_doWordAct_27 : decode cX1_doWordAct 27 = .ok (.getfield 78, 3) := by decide +kernel
theorem dX1_doWordAct_30 : decode cX1_doWordAct 30 = .ok (.aload_n 0, 1) := by decide +kernel
theorem dX1_doWordAct_31 : decode cX1_doWordAct 31 = .ok (.getfield 21, 3) := by decide +kernel
theorem dX1_doWordAct_34 : decode cX1_doWordAct 34 = .ok (.getfield 102, 3) := by decide +kernel
theorem dX1_doWordAct_37 : decode cX1_doWordAct 37 = .ok (.iload_n 1, 1) := by decide +kernel
theorem dX1_doWordAct_38 : decode cX1_doWordAct 38 = .ok (.aload_n 0, 1) := by decide +kernel
theorem dX1_doWordAct_39 : decode cX1_doWordAct 39 = .ok (.getfield 21, 3) := by decide +kernel
theorem dX1_doWordAct_42 : decode cX1_doWordAct 42 = .ok (.getfield 105, 3) := by decide +kernel
theorem dX1_doWordAct_45 : decode cX1_doWordAct 45 = .ok (.invokevirtual 108, 3) := by decide +kernel
theorem dX1_doWordAct_48 : decode cX1_doWordAct 48 = .ok (.istore_n 3, 1) := by decide +kernel
theorem dX1_doWordAct_49 : decode cX1_doWordAct 49 = .ok (.iload_n 3, 1) := by decide +kernel
theorem dX1_doWordAct_50 : decode cX1_doWordAct 50 = .ok (.ifCond .ne 36, 3) := by decide +kernel
theorem dX1_doWordAct_53 : decode cX1_doWordAct 53 = .ok (.aload_n 0, 1) := by decide +kernel
theorem dX1_doWordAct_54 : decode cX1_doWordAct 54 = .ok (.getfield 21, 3) := by decide +kernel
theorem dX1_doWordAct_57 : decode cX1_doWordAct 57 = .ok (.getfield 78, 3) := by decide +kernel
theorem dX1_doWordAct_60 : decode cX1_doWordAct 60 = .ok (.iconst 2, 1) := by decide +kernel
theorem dX1_doWordAct_61 : decode cX1_doWordAct 61 = .ok (.if_icmp .ne 25, 3) := by decide +kernel
theorem dX1_doWordAct_64 : decode cX1_doWordAct 64 = .ok (.aload_n 0, 1) := by decide +kernel
theorem dX1_doWordAct_65 : decode cX1_doWordAct 65 = .ok (.iload_n 1, 1) := by decide +kernel
theorem dX1_doWordAct_66 : decode cX1_doWordAct 66 = .ok (.iload_n 2, 1) := by decide +kernel
theorem dX1_doWordAct_67 : decode cX1_doWordAct 67 = .ok (.invokevirtual 112, 3) := by decide +kernel
theorem dX1_doWordAct_70 : decode cX1_doWordAct 70 = .ok (.aload_n 0, 1) := by decide +kernel
theorem dX1_doWordAct_71 : decode cX1_doWordAct 71 = .ok (.getfield 28, 3) := by decide +kernel
theorem dX1_doWordAct_74 : decode cX1_doWordAct 74 = .ok (.aload_n 0, 1) := by decide +kernel
theorem dX1_doWordAct_75 : decode cX1_doWordAct 75 = .ok (.getfield 12, 3) := by decide +kernel
theorem dX1_doWordAct_78 : decode cX1_doWordAct 78 = .ok (.getfield 116, 3) := by decide +kernel
theorem dX1_doWordAct_81 : decode cX1_doWordAct 81 = .ok (.iload_n 1, 1) := by decide +kernel
theorem dX1_doWordAct_82 : decode cX1_doWordAct 82 = .ok (.iaload, 1) := by decide +kernel
theorem dX1_doWordAct_83 : decode cX1_doWordAct 83 = .ok (.invokevirtual 119, 3) := by decide +kernel
theorem dX1_doWordAct_86 : decode cX1_doWordAct 86 = .ok (.iload_n 3, 1) := by decide +kernel
theorem dX1_doWordAct_87 : decode cX1_doWordAct 87 = .ok (.ireturn, 1) := by decide +kernel
theorem dX1_noteSpoken_0 : decode cX1_noteSpoken 0 = .ok (.iload_n 2, 1) := by decide +kernel
theorem dX1_noteSpoken_1 : decode cX1_noteSpoken 1 = .ok (.aload_n 0, 1) := by decide +kernel
theorem dX1_noteSpoken_2 : decode cX1_noteSpoken 2 = .ok (.getfield 54, 3) := by decide +kernel
theorem dX1_noteSpoken_5 : decode cX1_noteSpoken 5 = .ok (.if_icmp .le 13, 3) := by decide +kernel
theorem dX1_noteSpoken_8 : decode cX1_noteSpoken 8 = .ok (.aload_n 0, 1) := by decide +kernel
theorem dX1_noteSpoken_9 : decode cX1_noteSpoken 9 = .ok (.iload_n 1, 1) := by decide +kernel
theorem dX1_noteSpoken_10 : decode cX1_noteSpoken 10 = .ok (.putfield 51, 3) := by decide +kernel
theorem dX1_noteSpoken_13 : decode cX1_noteSpoken 13 = .ok (.aload_n 0, 1) := by decide +kernel
theorem dX1_noteSpoken_14 : decode cX1_noteSpoken 14 = .ok (.iload_n 2, 1) := by decide +kernel
theorem dX1_noteSpoken_15 : decode cX1_noteSpoken 15 = .ok (.putfield 54, 3) := by decide +kernel
theorem dX1_noteSpoken_18 : decode cX1_noteSpoken 18 = .ok (.aload_n 0, 1) := by decide +kernel
theorem dX1_noteSpoken_19 : decode cX1_noteSpoken 19 = .ok (.dup, 1) := by decide +kernel
theorem dX1_noteSpoken_20 : decode cX1_noteSpoken 20 = .ok (.getfield 48, 3) := by decide +kernel
theorem dX1_noteSpoken_23 : decode cX1_noteSpoken 23 = .ok (.iconst 1, 1) := by decide +kernel
theorem dX1_noteSpoken_24 : decode cX1_noteSpoken 24 = .ok (.iadd, 1) := by decide +kernel
theorem dX1_noteSpoken_25 : decode cX1_noteSpoken 25 = .ok (.putfield 48, 3) := by decide +kernel
theorem dX1_noteSpoken_28 : decode cX1_noteSpoken 28 = .ok (.return_, 1) := by decide +kernel
theorem dX2_init_0 : decode cX2_init 0 = .ok (.aload_n 0, 1) := by decide +kernel
theorem dX2_init_1 : decode cX2_init 1 = .ok (.invokespecial 3, 3) := by decide +kernel
theorem dX2_init_4 : decode cX2_init 4 = .ok (.aload_n 0, 1) := by decide +kernel
theorem dX2_init_5 : decode cX2_init 5 = .ok (.iconst 0, 1) := by decide +kernel
theorem dX2_init_6 : decode cX2_init 6 = .ok (.putfield 11, 3) := by decide +kernel
theorem dX2_init_9 : decode cX2_init 9 = .ok (.aload_n 0, 1) := by decide +kernel
theorem dX2_init_10 : decode cX2_init 10 = .ok (.iconst 0, 1) := by decide +kernel
theorem dX2_init_11 : decode cX2_init 11 = .ok (.putfield 15, 3) := by decide +kernel
theorem dX2_init_14 : decode cX2_init 14 = .ok (.return_, 1) := by decide +kernel
theorem dX2_begin_0 : decode cX2_begin 0 = .ok (.aload_n 0, 1) := by decide +kernel
theorem dX2_begin_1 : decode cX2_begin 1 = .ok (.iconst 0, 1) := by decide +kernel
theorem dX2_begin_2 : decode cX2_begin 2 = .ok (.putfield 11, 3) := by decide +kernel
theorem dX2_begin_5 : decode cX2_begin 5 = .ok (.aload_n 0, 1) := by decide +kernel
theorem dX2_begin_6 : decode cX2_begin 6 = .ok (.iconst 0, 1) := by decide +kernel
theorem dX2_begin_7 : decode cX2_begin 7 = .ok (.putfield 15, 3) := by decide +kernel
theorem dX2_begin_10 : decode cX2_begin 10 = .ok (.return_, 1) := by decide +kernel
set_option maxRecDepth 20000 in
theorem ggX2_add_X2_stageBehind : GoodIn wsX2_add wsX2_stageBehind := goodIn_r _ [7, 1, 8, 9] (by decide +kernel) (by decide +kernel)
set_option maxRecDepth 20000 in
theorem gX2_add_X2_stageBehind : GoodIn wsX2_add (wsV RX2 18 RX2 yX2_stageBehind wsX2_stageBehind) := goodIn_app (goodIn_of _ (by decide +kernel)) ggX2_add_X2_stageBehind
theorem dX2_add_0 : decode cX2_add 0 = .ok (.aload_n 0, 1) := by decide +kernel
theorem dX2_add_1 : decode cX2_add 1 = .ok (.aload_n 0, 1) := by decide +kernel
theorem dX2_add_2 : decode cX2_add 2 = .ok (.iload_n 1, 1) := by decide +kernel
theorem dX2_add_3 : decode cX2_add 3 = .ok (.invokevirtual 18, 3) := by decide +kernel
theorem dX2_add_6 : decode cX2_add 6 = .ok (.putfield 11, 3) := by decide +kernel
theorem dX2_add_9 : decode cX2_add 9 = .ok (.aload_n 0, 1) := by decide +kernel
theorem dX2_add_10 : decode cX2_add 10 = .ok (.dup, 1) := by decide +kernel
theorem dX2_add_11 : decode cX2_add 11 = .ok (.getfield 15, 3) := by decide +kernel
theorem dX2_add_14 : decode cX2_add 14 = .ok (.iconst 1, 1) := by decide +kernel
theorem dX2_add_15 : decode cX2_add 15 = .ok (.iadd, 1) := by decide +kernel
theorem dX2_add_16 : decode cX2_add 16 = .ok (.putfield 15, 3) := by decide +kernel
theorem dX2_add_19 : decode cX2_add 19 = .ok (.return_, 1) := by decide +kernel
theorem dX2_isSentence_0 : decode cX2_isSentence 0 = .ok (.aload_n 0, 1) := by decide +kernel
theorem dX2_isSentence_1 : decode cX2_isSentence 1 = .ok (.getfield 11, 3) := by decide +kernel
theorem dX2_isSentence_4 : decode cX2_isSentence 4 = .ok (.iconst 2, 1) := by decide +kernel
theorem dX2_isSentence_5 : decode cX2_isSentence 5 = .ok (.if_icmp .eq 11, 3) := by decide +kernel
theorem dX2_isSentence_8 : decode cX2_isSentence 8 = .ok (.aload_n 0, 1) := by decide +kernel
theorem dX2_isSentence_9 : decode cX2_isSentence 9 = .ok (.getfield 11, 3) := by decide +kernel
theorem dX2_isSentence_12 : decode cX2_isSentence 12 = .ok (.iconst 4, 1) := by decide +kernel
theorem dX2_isSentence_13 : decode cX2_isSentence 13 = .ok (.if_icmp .ne 7, 3) := by decide +kernel
theorem dX2_isSentence_16 : decode cX2_isSentence 16 = .ok (.iconst 1, 1) := by decide +kernel
theorem dX2_isSentence_17 : decode cX2_isSentence 17 = .ok (.goto 4, 3) := by decide +kernel
theorem dX2_isSentence_20 : decode cX2_isSentence 20 = .ok (.iconst 0, 1) := by decide +kernel
theorem dX2_isSentence_21 : decode cX2_isSentence 21 = .ok (.ireturn, 1) := by decide +kernel
theorem dX2_stageBehind_0 : decode cX2_stageBehind 0 = .ok (.aload_n 0, 1) := by decide +kernel
theorem dX2_stageBehind_1 : decode cX2_stageBehind 1 = .ok (.getfield 11, 3) := by decide +kernel
theorem dX2_stageBehind_4 : decode cX2_stageBehind 4 = .ok (.tableswitch 77 0 3 #[32, 49, 60, 60], 32) := by decide +kernel
theorem dX2_stageBehind_36 : decode cX2_stageBehind 36 = .ok (.iload_n 1, 1) := by decide +kernel
theorem dX2_stageBehind_37 : decode cX2_stageBehind 37 = .ok (.iconst 2, 1) := by decide +kernel
theorem dX2_stageBehind_38 : decode cX2_stageBehind 38 = .ok (.if_icmp .ne 5, 3) := by decide +kernel
theorem dX2_stageBehind_41 : decode cX2_stageBehind 41 = .ok (.iconst 0, 1) := by decide +kernel
theorem dX2_stageBehind_42 : decode cX2_stageBehind 42 = .ok (.ireturn, 1) := by decide +kernel
theorem dX2_stageBehind_43 : decode cX2_stageBehind 43 = .ok (.iload_n 1, 1) := by decide +kernel
theorem dX2_stageBehind_44 : decode cX2_stageBehind 44 = .ok (.ifCond .ne 7, 3) := by decide +kernel
theorem dX2_stageBehind_47 : decode cX2_stageBehind 47 = .ok (.iconst 1, 1) := by decide +kernel
theorem dX2_stageBehind_48 : decode cX2_stageBehind 48 = .ok (.goto 4, 3) := by decide +kernel
theorem dX2_stageBehind_51 : decode cX2_stageBehind 51 = .ok (.iconst 5, 1) := by decide +kernel
theorem dX2_stageBehind_52 : decode cX2_stageBehind 52 = .ok (.ireturn, 1) := by decide +kernel
theorem dX2_stageBehind_53 : decode cX2_stageBehind 53 = .ok (.iload_n 1, 1) := by decide +kernel
theorem dX2_stageBehind_54 : decode cX2_stageBehind 54 = .ok (.iconst 1, 1) := by decide +kernel
theorem dX2_stageBehind_55 : decode cX2_stageBehind 55 = .ok (.if_icmp .ne 7, 3) := by decide +kernel
theorem dX2_stageBehind_58 : decode cX2_stageBehind 58 = .ok (.iconst 2, 1) := by decide +kernel
theorem dX2_stageBehind_59 : decode cX2_stageBehind 59 = .ok (.goto 4, 3) := by decide +kernel
theorem dX2_stageBehind_62 : decode cX2_stageBehind 62 = .ok (.iconst 5, 1) := by decide +kernel
theorem dX2_stageBehind_63 : decode cX2_stageBehind 63 = .ok (.ireturn, 1) := by decide +kernel
theorem dX2_stageBehind_64 : decode cX2_stageBehind 64 = .ok (.iload_n 1, 1) := by decide +kernel
theorem dX2_stageBehind_65 : decode cX2_stageBehind 65 = .ok (.iconst 2, 1) := by decide +kernel
theorem dX2_stageBehind_66 : decode cX2_stageBehind 66 = .ok (.if_icmp .ne 5, 3) := by decide +kernel
theorem dX2_stageBehind_69 : decode cX2_stageBehind 69 = .ok (.iconst 3, 1) := by decide +kernel
theorem dX2_stageBehind_70 : decode cX2_stageBehind 70 = .ok (.ireturn, 1) := by decide +kernel
theorem dX2_stageBehind_71 : decode cX2_stageBehind 71 = .ok (.iload_n 1, 1) := by decide +kernel
theorem dX2_stageBehind_72 : decode cX2_stageBehind 72 = .ok (.ifCond .ne 7, 3) := by decide +kernel
theorem dX2_stageBehind_75 : decode cX2_stageBehind 75 = .ok (.iconst 4, 1) := by decide +kernel
theorem dX2_stageBehind_76 : decode cX2_stageBehind 76 = .ok (.goto 4, 3) := by decide +kernel
theorem dX2_stageBehind_79 : decode cX2_stageBehind 79 = .ok (.iconst 5, 1) := by decide +kernel
theorem dX2_stageBehind_80 : decode cX2_stageBehind 80 = .ok (.ireturn, 1) := by decide +kernel
theorem dX2_stageBehind_81 : decode cX2_stageBehind 81 = .ok (.iconst 5, 1) := by decide +kernel
theorem dX2_stageBehind_82 : decode cX2_stageBehind 82 = .ok (.ireturn, 1) := by decide +kernel
theorem dX3_init_0 : decode cX3_init 0 = .ok (.aload_n 0, 1) := by decide +kernel
theorem dX3_init_1 : decode cX3_init 1 = .ok (.invokespecial 3, 3) := by decide +kernel
theorem dX3_init_4 : decode cX3_init 4 = .ok (.aload_n 0, 1) := by decide +kernel
theorem dX3_init_5 : decode cX3_init 5 = .ok (.bipush 12, 2) := by decide +kernel
theorem dX3_init_7 : decode cX3_init 7 = .ok (.newarray .int, 2) := by decide +kernel
theorem dX3_init_9 : decode cX3_init 9 = .ok (.putfield 9, 3) := by decide +kernel
theorem dX3_init_12 : decode cX3_init 12 = .ok (.aload_n 0, 1) := by decide +kernel
theorem dX3_init_13 : decode cX3_init 13 = .ok (.bipush 12, 2) := by decide +kernel
theorem dX3_init_15 : decode cX3_init 15 = .ok (.newarray .int, 2) := by decide +kernel
theorem dX3_init_17 : decode cX3_init 17 = .ok (.putfield 15, 3) := by decide +kernel
theorem dX3_init_20 : decode cX3_init 20 = .ok (.aload_n 0, 1) := by decide +kernel
theorem dX3_init_21 : decode cX3_init 21 = .ok (.bipush 12, 2) := by decide +kernel
theorem dX3_init_23 : decode cX3_init 23 = .ok (.newarray .int, 2) := by decide +kernel
theorem dX3_init_25 : decode cX3_init 25 = .ok (.putfield 18, 3) := by decide +kernel
theorem dX3_init_28 : decode cX3_init 28 = .ok (.aload_n 0, 1) := by decide +kernel
theorem dX3_init_29 : decode cX3_init 29 = .ok (.iconst 4, 1) := by decide +kernel
theorem dX3_init_30 : decode cX3_init 30 = .ok (.newarray .int, 2) := by decide +kernel
theorem dX3_init_32 : decode cX3_init 32 = .ok (.putfield 21, 3) := by decide +kernel
theorem dX3_init_35 : decode cX3_init 35 = .ok (.aload_n 0, 1) := by decide +kernel
theorem dX3_init_36 : decode cX3_init 36 = .ok (.iconst 4, 1) := by decide +kernel
theorem dX3_init_37 : decode cX3_init 37 = .ok (.newarray .int, 2) := by decide +kernel
theorem dX3_init_39 : decode cX3_init 39 = .ok (.putfield 24, 3) := by decide +kernel
theorem dX3_init_42 : decode cX3_init 42 = .ok (.aload_n 0, 1) := by decide +kernel
theorem dX3_init_43 : decode cX3_init 43 = .ok (.bipush 8, 2) := by decide +kernel
theorem dX3_init_45 : decode cX3_init 45 = .ok (.newarray .int, 2) := by decide +kernel
theorem dX3_init_47 : decode cX3_init 47 = .ok (.putfield 27, 3) := by decide +kernel
theorem dX3_init_50 : decode cX3_init 50 = .ok (.aload_n 0, 1) := by decide +kernel
theorem dX3_init_51 : decode cX3_init 51 = .ok (.iconst 0, 1) := by decide +kernel
theorem dX3_init_52 : decode cX3_init 52 = .ok (.putfield 30, 3) := by decide +kernel
theorem dX3_init_55 : decode cX3_init 55 = .ok (.aload_n 0, 1) := by decide +kernel
theorem dX3_init_56 : decode cX3_init 56 = .ok (.bipush 6, 2) := by decide +kernel
theorem dX3_init_58 : decode cX3_init 58 = .ok (.newarray .int, 2) := by decide +kernel
theorem dX3_init_60 : decode cX3_init 60 = .ok (.putfield 34, 3) := by decide +kernel
theorem dX3_init_63 : decode cX3_init 63 = .ok (.aload_n 0, 1) := by decide +kernel
theorem dX3_init_64 : decode cX3_init 64 = .ok (.bipush 6, 2) := by decide +kernel
theorem dX3_init_66 : decode cX3_init 66 = .ok (.newarray .int, 2) := by decide +kernel
theorem dX3_init_68 : decode cX3_init 68 = .ok (.putfield 37, 3) := by decide +kernel
theorem dX3_init_71 : decode cX3_init 71 = .ok (.aload_n 0, 1) := by decide +kernel
theorem dX3_init_72 : decode cX3_init 72 = .ok (.bipush 6, 2) := by decide +kernel
theorem dX3_init_74 : decode cX3_init 74 = .ok (.newarray .int, 2) := by decide +kernel
theorem dX3_init_76 : decode cX3_init 76 = .ok (.putfield 40, 3) := by decide +kernel
theorem dX3_init_79 : decode cX3_init 79 = .ok (.aload_n 0, 1) := by decide +kernel
theorem dX3_init_80 : decode cX3_init 80 = .ok (.iconst 0, 1) := by decide +kernel
theorem dX3_init_81 : decode cX3_init 81 = .ok (.putfield 43, 3) := by decide +kernel
theorem dX3_init_84 : decode cX3_init 84 = .ok (.iconst 0, 1) := by decide +kernel
theorem dX3_init_85 : decode cX3_init 85 = .ok (.istore_n 1, 1) := by decide +kernel
theorem dX3_init_86 : decode cX3_init 86 = .ok (.iload_n 1, 1) := by decide +kernel
theorem dX3_init_87 : decode cX3_init 87 = .ok (.bipush 12, 2) := by decide +kernel
theorem dX3_init_89 : decode cX3_init 89 = .ok (.if_icmp .ge 33, 3) := by decide +kernel
theorem dX3_init_92 : decode cX3_init 92 = .ok (.aload_n 0, 1) := by decide +kernel
theorem dX3_init_93 : decode cX3_init 93 = .ok (.getfield 9, 3) := by decide +kernel
theorem dX3_init_96 : decode cX3_init 96 = .ok (.iload_n 1, 1) := by decide +kernel
theorem dX3_init_97 : decode cX3_init 97 = .ok (.bipush 10, 2) := by decide +kernel
theorem dX3_init_99 : decode cX3_init 99 = .ok (.iastore, 1) := by decide +kernel
theorem dX3_init_100 : decode cX3_init 100 = .ok (.aload_n 0, 1) := by decide +kernel
theorem dX3_init_101 : decode cX3_init 101 = .ok (.getfield 15, 3) := by decide +kernel
theorem dX3_init_104 : decode cX3_init 104 = .ok (.iload_n 1, 1) := by decide +kernel
theorem dX3_init_105 : decode cX3_init 105 = .ok (.iconst 0, 1) := by decide +kernel
theorem dX3_init_106 : decode cX3_init 106 = .ok (.iastore, 1) := by decide +kernel
theorem dX3_init_107 : decode cX3_init 107 = .ok (.aload_n 0, 1) := by decide +kernel
theorem dX3_init_108 : decode cX3_init 108 = .ok (.getfield 18, 3) := by decide +kernel
theorem dX3_init_111 : decode cX3_init 111 = .ok (.iload_n 1, 1) := by decide +kernel
theorem dX3_init_112 : decode cX3_init 112 = .ok (.iconst 1, 1) := by decide +kernel
theorem dX3_init_113 : decode cX3_init 113 = .ok (.iload_n 1, 1) := by decide +kernel
theorem dX3_init_114 : decode cX3_init 114 = .ok (.ishl, 1) := by decide +kernel
theorem dX3_init_115 : decode cX3_init 115 = .ok (.iastore, 1) := by decide +kernel
theorem dX3_init_116 : decode cX3_init 116 = .ok (.iinc 1 1, 3) := by decide +kernel
theorem dX3_init_119 : decode cX3_init 119 = .ok (.goto (-33), 3) := by decide +kernel
theorem dX3_init_122 : decode cX3_init 122 = .ok (.iconst 0, 1) := by decide +kernel
theorem dX3_init_123 : decode cX3_init 123 = .ok (.istore_n 1, 1) := by decide +kernel
theorem dX3_init_124 : decode cX3_init 124 = .ok (.iload_n 1, 1) := by decide +kernel
theorem dX3_init_125 : decode cX3_init 125 = .ok (.iconst 4, 1) := by decide +kernel
theorem dX3_init_126 : decode cX3_init 126 = .ok (.if_icmp .ge 17, 3) := by decide +kernel
theorem dX3_init_129 : decode cX3_init 129 = .ok (.aload_n 0, 1) := by decide +kernel
theorem dX3_init_130 : decode cX3_init 130 = .ok (.getfield 21, 3) := by decide +kernel
theorem dX3_init_133 : decode cX3_init 133 = .ok (.iload_n 1, 1) := by decide +kernel
theorem dX3_init_134 : decode cX3_init 134 = .ok (.bipush 50, 2) := by decide +kernel
theorem dX3_init_136 : decode cX3_init 136 = .ok (.iastore, 1) := by decide +kernel
theorem dX3_init_137 : decode cX3_init 137 = .ok (.iinc 1 1, 3) := by decide +kernel
theorem dX3_init_140 : decode cX3_init 140 = .ok (.goto (-16), 3) := by decide +kernel
theorem dX3_init_143 : decode cX3_init 143 = .ok (.return_, 1) := by decide +kernel
set_option maxRecDepth 20000 in
theorem ggX3_copyFrom_X4_copyRow : GoodIn wsX3_copyFrom wsX4_copyRow := goodIn_r _ [14] (by decide +kernel) (by decide +kernel)
set_option maxRecDepth 20000 in
theorem gX3_copyFrom_X4_copyRow_n46 : GoodIn wsX3_copyFrom (wsX4_copyRow) := ggX3_copyFrom_X4_copyRow
theorem dX3_copyFrom_0 : decode cX3_copyFrom 0 = .ok (.aload_n 1, 1) := by decide +kernel
theorem dX3_copyFrom_1 : decode cX3_copyFrom 1 = .ok (.getfield 9, 3) := by decide +kernel
theorem dX3_copyFrom_4 : decode cX3_copyFrom 4 = .ok (.aload_n 0, 1) := by decide +kernel
theorem dX3_copyFrom_5 : decode cX3_copyFrom 5 = .ok (.getfield 9, 3) := by decide +kernel
theorem dX3_copyFrom_8 : decode cX3_copyFrom 8 = .ok (.invokestatic 46, 3) := by decide +kernel
theorem dX3_copyFrom_11 : decode cX3_copyFrom 11 = .ok (.aload_n 1, 1) := by decide +kernel
theorem dX3_copyFrom_12 : decode cX3_copyFrom 12 = .ok (.getfield 15, 3) := by decide +kernel
theorem dX3_copyFrom_15 : decode cX3_copyFrom 15 = .ok (.aload_n 0, 1) := by decide +kernel
theorem dX3_copyFrom_16 : decode cX3_copyFrom 16 = .ok (.getfield 15, 3) := by decide +kernel
theorem dX3_copyFrom_19 : decode cX3_copyFrom 19 = .ok (.invokestatic 46, 3) := by decide +kernel
theorem dX3_copyFrom_22 : decode cX3_copyFrom 22 = .ok (.aload_n 1, 1) := by decide +kernel
theorem dX3_copyFrom_23 : decode cX3_copyFrom 23 = .ok (.getfield 18, 3) := by decide +kernel
theorem dX3_copyFrom_26 : decode cX3_copyFrom 26 = .ok (.aload_n 0, 1) := by decide +kernel
theorem dX3_copyFrom_27 : decode cX3_copyFrom 27 = .ok (.getfield 18, 3) := by decide +kernel
theorem dX3_copyFrom_30 : decode cX3_copyFrom 30 = .ok (.invokestatic 46, 3) := by decide +kernel
theorem dX3_copyFrom_33 : decode cX3_copyFrom 33 = .ok (.aload_n 1, 1) := by decide +kernel
theorem dX3_copyFrom_34 : decode cX3_copyFrom 34 = .ok (.getfield 21, 3) := by decide +kernel
theorem dX3_copyFrom_37 : decode cX3_copyFrom 37 = .ok (.aload_n 0, 1) := by decide +kernel
theorem dX3_copyFrom_38 : decode cX3_copyFrom 38 = .ok (.getfield 21, 3) := by decide +kernel
theorem dX3_copyFrom_41 : decode cX3_copyFrom 41 = .ok (.invokestatic 46, 3) := by decide +kernel
theorem dX3_copyFrom_44 : decode cX3_copyFrom 44 = .ok (.aload_n 1, 1) := by decide +kernel
theorem dX3_copyFrom_45 : decode cX3_copyFrom 45 = .ok (.getfield 24, 3) := by decide +kernel
theorem dX3_copyFrom_48 : decode cX3_copyFrom 48 = .ok (.aload_n 0, 1) := by decide +kernel
theorem dX3_copyFrom_49 : decode cX3_copyFrom 49 = .ok (.getfield 24, 3) := by decide +kernel
theorem dX3_copyFrom_52 : decode cX3_copyFrom 52 = .ok (.invokestatic 46, 3) := by decide +kernel
theorem dX3_copyFrom_55 : decode cX3_copyFrom 55 = .ok (.aload_n 1, 1) := by decide +kernel
theorem dX3_copyFrom_56 : decode cX3_copyFrom 56 = .ok (.getfield 27, 3) := by decide +kernel
theorem dX3_copyFrom_59 : decode cX3_copyFrom 59 = .ok (.aload_n 0, 1) := by decide +kernel
theorem dX3_copyFrom_60 : decode cX3_copyFrom 60 = .ok (.getfield 27, 3) := by decide +kernel
theorem dX3_copyFrom_63 : decode cX3_copyFrom 63 = .ok (.invokestatic 46, 3) := by decide +kernel
theorem dX3_copyFrom_66 : decode cX3_copyFrom 66 = .ok (.aload_n 0, 1) := by decide +kernel
theorem dX3_copyFrom_67 : decode cX3_copyFrom 67 = .ok (.aload_n 1, 1) := by decide +kernel
theorem dX3_copyFrom_68 : decode cX3_copyFrom 68 = .ok (.getfield 30, 3) := by decide +kernel
theorem dX3_copyFrom_71 : decode cX3_copyFrom 71 = .ok (.putfield 30, 3) := by decide +kernel
theorem dX3_copyFrom_74 : decode cX3_copyFrom 74 = .ok (.aload_n 1, 1) := by decide +kernel
theorem dX3_copyFrom_75 : decode cX3_copyFrom 75 = .ok (.getfield 34, 3) := by decide +kernel
theorem dX3_copyFrom_78 : decode cX3_copyFrom 78 = .ok (.aload_n 0, 1) := by decide +kernel
theorem dX3_copyFrom_79 : decode cX3_copyFrom 79 = .ok (.getfield 34, 3) := by decide +kernel
theorem dX3_copyFrom_82 : decode cX3_copyFrom 82 = .ok (.invokestatic 46, 3) := by decide +kernel
theorem dX3_copyFrom_85 : decode cX3_copyFrom 85 = .ok (.aload_n 1, 1) := by decide +kernel
theorem dX3_copyFrom_86 : decode cX3_copyFrom 86 = .ok (.getfield 37, 3) := by decide +kernel
theorem dX3_copyFrom_89 : decode cX3_copyFrom 89 = .ok (.aload_n 0, 1) := by decide +kernel
theorem dX3_copyFrom_90 : decode cX3_copyFrom 90 = .ok (.getfield 37, 3) := by decide +kernel
theorem dX3_copyFrom_93 : decode cX3_copyFrom 93 = .ok (.invokestatic 46, 3) := by decide +kernel
theorem dX3_copyFrom_96 : decode cX3_copyFrom 96 = .ok (.aload_n 1, 1) := by decide +kernel
theorem dX3_copyFrom_97 : decode cX3_copyFrom 97 = .ok (.getfield 40, 3) := by decide +kernel
theorem dX3_copyFrom_100 : decode cX3_copyFrom 100 = .ok (.aload_n 0, 1) := by decide +kernel
theorem dX3_copyFrom_101 : decode cX3_copyFrom 101 = .ok (.getfield 40, 3) := by decide +kernel
theorem dX3_copyFrom_104 : decode cX3_copyFrom 104 = .ok (.invokestatic 46, 3) := by decide +kernel
theorem dX3_copyFrom_107 : decode cX3_copyFrom 107 = .ok (.aload_n 0, 1) := by decide +kernel
theorem dX3_copyFrom_108 : decode cX3_copyFrom 108 = .ok (.aload_n 1, 1) := by decide +kernel
theorem dX3_copyFrom_109 : decode cX3_copyFrom 109 = .ok (.getfield 43, 3) := by decide +kernel
theorem dX3_copyFrom_112 : decode cX3_copyFrom 112 = .ok (.putfield 43, 3) := by decide +kernel
theorem dX3_copyFrom_115 : decode cX3_copyFrom 115 = .ok (.return_, 1) := by decide +kernel
set_option maxRecDepth 20000 in
theorem ggX3_joinRhymes_X4_isWord : GoodIn wsX3_joinRhymes wsX4_isWord := goodIn_r _ [4, 5, 6, 3, 7] (by decide +kernel) (by decide +kernel)
set_option maxRecDepth 20000 in
theorem gX3_joinRhymes_X4_isWord_n50 : GoodIn wsX3_joinRhymes (wsX4_isWord) := ggX3_joinRhymes_X4_isWord
set_option maxRecDepth 20000 in
theorem ggX3_joinRhymes_X4_isIn : GoodIn wsX3_joinRhymes wsX4_isIn := goodIn_r _ [9] (by decide +kernel) (by decide +kernel)
set_option maxRecDepth 20000 in
theorem gX3_joinRhymes_X4_isIn_n54 : GoodIn wsX3_joinRhymes (wsX4_isIn) := ggX3_joinRhymes_X4_isIn
theorem dX3_joinRhymes_0 : decode cX3_joinRhymes 0 = .ok (.iload_n 1, 1) := by decide +kernel
theorem dX3_joinRhymes_1 : decode cX3_joinRhymes 1 = .ok (.invokestatic 50, 3) := by decide +kernel
theorem dX3_joinRhymes_4 : decode cX3_joinRhymes 4 = .ok (.ifCond .eq 10, 3) := by decide +kernel
theorem dX3_joinRhymes_7 : decode cX3_joinRhymes 7 = .ok (.iload_n 2, 1) := by decide +kernel
theorem dX3_joinRhymes_8 : decode cX3_joinRhymes 8 = .ok (.invokestatic 50, 3) := by decide +kernel
theorem dX3_joinRhymes_11 : decode cX3_joinRhymes 11 = .ok (.ifCond .ne 4, 3) := by decide +kernel
theorem dX3_joinRhymes_14 : decode cX3_joinRhymes 14 = .ok (.return_, 1) := by decide +kernel
theorem dX3_joinRhymes_15 : decode cX3_joinRhymes 15 = .ok (.aload_n 0, 1) := by decide +kernel
theorem dX3_joinRhymes_16 : decode cX3_joinRhymes 16 = .ok (.getfield 18, 3) := by decide +kernel
theorem dX3_joinRhymes_19 : decode cX3_joinRhymes 19 = .ok (.iload_n 1, 1) := by decide +kernel
theorem dX3_joinRhymes_20 : decode cX3_joinRhymes 20 = .ok (.iaload, 1) := by decide +kernel
theorem dX3_joinRhymes_21 : decode cX3_joinRhymes 21 = .ok (.aload_n 0, 1) := by decide +kernel
theorem dX3_joinRhymes_22 : decode cX3_joinRhymes 22 = .ok (.getfield 18, 3) := by decide +kernel
theorem dX3_joinRhymes_25 : decode cX3_joinRhymes 25 = .ok (.iload_n 2, 1) := by decide +kernel
theorem dX3_joinRhymes_26 : decode cX3_joinRhymes 26 = .ok (.iaload, 1) := by decide +kernel
theorem dX3_joinRhymes_27 : decode cX3_joinRhymes 27 = .ok (.ior, 1) := by decide +kernel
theorem dX3_joinRhymes_28 : decode cX3_joinRhymes 28 = .ok (.istore_n 3, 1) := by decide +kernel
theorem dX3_joinRhymes_29 : decode cX3_joinRhymes 29 = .ok (.iconst 0, 1) := by decide +kernel
theorem dX3_joinRhymes_30 : decode cX3_joinRhymes 30 = .ok (.istore 4, 2) := by decide +kernel
theorem dX3_joinRhymes_32 : decode cX3_joinRhymes 32 = .ok (.iload 4, 2) := by decide +kernel
theorem dX3_joinRhymes_34 : decode cX3_joinRhymes 34 = .ok (.bipush 12, 2) := by decide +kernel
theorem dX3_joinRhymes_36 : decode cX3_joinRhymes 36 = .ok (.if_icmp .ge 26, 3) := by decide +kernel
theorem dX3_joinRhymes_39 : decode cX3_joinRhymes 39 = .ok (.iload 4, 2) := by decide +kernel
theorem dX3_joinRhymes_41 : decode cX3_joinRhymes 41 = .ok (.iload_n 3, 1) := by decide +kernel
theorem dX3_joinRhymes_42 : decode cX3_joinRhymes 42 = .ok (.invokestatic 54, 3) := by decide +kernel
theorem dX3_joinRhymes_45 : decode cX3_joinRhymes 45 = .ok (.ifCond .eq 11, 3) := by decide +kernel
theorem dX3_joinRhymes_48 : decode cX3_joinRhymes 48 = .ok (.aload_n 0, 1) := by decide +kernel
theorem dX3_joinRhymes_49 : decode cX3_joinRhymes 49 = .ok (.getfield 18, 3) := by decide +kernel
theorem dX3_joinRhymes_52 : decode cX3_joinRhymes 52 = .ok (.iload 4, 2) := by decide +kernel
theorem dX3_joinRhymes_54 : decode cX3_joinRhymes 54 = .ok (.iload_n 3, 1) := by decide +kernel
theorem dX3_joinRhymes_55 : decode cX3_joinRhymes 55 = .ok (.iastore, 1) := by decide +kernel
theorem dX3_joinRhymes_56 : decode cX3_joinRhymes 56 = .ok (.iinc 4 1, 3) := by decide +kernel
theorem dX3_joinRhymes_59 : decode cX3_joinRhymes 59 = .ok (.goto (-27), 3) := by decide +kernel
theorem dX3_joinRhymes_62 : decode cX3_joinRhymes 62 = .ok (.return_, 1) := by decide +kernel
set_option maxRecDepth 20000 in
theorem ggX3_leaveRhymes_X4_isWord : GoodIn wsX3_leaveRhymes wsX4_isWord := goodIn_r _ [4, 5, 6, 3, 7] (by decide +kernel) (by decide +kernel)
set_option maxRecDepth 20000 in
theorem gX3_leaveRhymes_X4_isWord_n50 : GoodIn wsX3_leaveRhymes (wsX4_isWord) := ggX3_leaveRhymes_X4_isWord
theorem dX3_leaveRhymes_0 : decode cX3_leaveRhymes 0 = .ok (.iload_n 1, 1) := by decide +kernel
theorem dX3_leaveRhymes_1 : decode cX3_leaveRhymes 1 = .ok (.invokestatic 50, 3) := by decide +kernel
theorem dX3_leaveRhymes_4 : decode cX3_leaveRhymes 4 = .ok (.ifCond .ne 4, 3) := by decide +kernel
theorem dX3_leaveRhymes_7 : decode cX3_leaveRhymes 7 = .ok (.return_, 1) := by decide +kernel
theorem dX3_leaveRhymes_8 : decode cX3_leaveRhymes 8 = .ok (.iconst 1, 1) := by decide +kernel
theorem dX3_leaveRhymes_9 : decode cX3_leaveRhymes 9 = .ok (.iload_n 1, 1) := by decide +kernel
theorem dX3_leaveRhymes_10 : decode cX3_leaveRhymes 10 = .ok (.ishl, 1) := by decide +kernel
theorem dX3_leaveRhymes_11 : decode cX3_leaveRhymes 11 = .ok (.istore_n 2, 1) := by decide +kernel
theorem dX3_leaveRhymes_12 : decode cX3_leaveRhymes 12 = .ok (.iconst 0, 1) := by decide +kernel
theorem dX3_leaveRhymes_13 : decode cX3_leaveRhymes 13 = .ok (.istore_n 3, 1) := by decide +kernel
theorem dX3_leaveRhymes_14 : decode cX3_leaveRhymes 14 = .ok (.iload_n 3, 1) := by decide +kernel
theorem dX3_leaveRhymes_15 : decode cX3_leaveRhymes 15 = .ok (.bipush 12, 2) := by decide +kernel
theorem dX3_leaveRhymes_17 : decode cX3_leaveRhymes 17 = .ok (.if_icmp .ge 21, 3) := by decide +kernel
theorem dX3_leaveRhymes_20 : decode cX3_leaveRhymes 20 = .ok (.aload_n 0, 1) := by decide +kernel
theorem dX3_leaveRhymes_21 : decode cX3_leaveRhymes 21 = .ok (.getfield 18, 3) := by decide +kernel
theorem dX3_leaveRhymes_24 : decode cX3_leaveRhymes 24 = .ok (.iload_n 3, 1) := by decide +kernel
theorem dX3_leaveRhymes_25 : decode cX3_leaveRhymes 25 = .ok (.dup2, 1) := by decide +kernel
theorem dX3_leaveRhymes_26 : decode cX3_leaveRhymes 26 = .ok (.iaload, 1) := by decide +kernel
theorem dX3_leaveRhymes_27 : decode cX3_leaveRhymes 27 = .ok (.iload_n 2, 1) := by decide +kernel
theorem dX3_leaveRhymes_28 : decode cX3_leaveRhymes 28 = .ok (.iconst (-1), 1) := by decide +kernel
theorem dX3_leaveRhymes_29 : decode cX3_leaveRhymes 29 = .ok (.ixor, 1) := by decide +kernel
theorem dX3_leaveRhymes_30 : decode cX3_leaveRhymes 30 = .ok (.iand, 1) := by decide +kernel
theorem dX3_leaveRhymes_31 : decode cX3_leaveRhymes 31 = .ok (.iastore, 1) := by decide +kernel
theorem dX3_leaveRhymes_32 : decode cX3_leaveRhymes 32 = .ok (.iinc 3 1, 3) := by decide +kernel
theorem dX3_leaveRhymes_35 : decode cX3_leaveRhymes 35 = .ok (.goto (-21), 3) := by decide +kernel
theorem dX3_leaveRhymes_38 : decode cX3_leaveRhymes 38 = .ok (.aload_n 0, 1) := by decide +kernel
theorem dX3_leaveRhymes_39 : decode cX3_leaveRhymes 39 = .ok (.getfield 18, 3) := by decide +kernel
theorem dX3_leaveRhymes_42 : decode cX3_leaveRhymes 42 = .ok (.iload_n 1, 1) := by decide +kernel
theorem dX3_leaveRhymes_43 : decode cX3_leaveRhymes 43 = .ok (.iload_n 2, 1) := by decide +kernel
theorem dX3_leaveRhymes_44 : decode cX3_leaveRhymes 44 = .ok (.iastore, 1) := by decide +kernel
theorem dX3_leaveRhymes_45 : decode cX3_leaveRhymes 45 = .ok (.return_, 1) := by decide +kernel
set_option maxRecDepth 20000 in
theorem ggX3_weigh_X4_isIn : GoodIn wsX3_weigh wsX4_isIn := goodIn_r _ [4] (by decide +kernel) (by decide +kernel)
set_option maxRecDepth 20000 in
theorem gX3_weigh_X4_isIn_n54 : GoodIn wsX3_weigh (wsX4_isIn) := ggX3_weigh_X4_isIn
set_option maxRecDepth 20000 in
theorem ggX3_weigh_X3_heaviestOf : GoodIn wsX3_weigh wsX3_heaviestOf := goodIn_r _ [9, 10, 11, 12, 13, 14, 2, 3, 4, 15, 16, 17, 18, 19, 20, 21, 22, 23, 24, 25] (by decide +kernel) (by decide +kernel)
set_option maxRecDepth 20000 in
theorem gX3_weigh_X3_heaviestOf : GoodIn wsX3_weigh (wsV RX3 58 RX3 yX3_heaviestOf wsX3_heaviestOf) := goodIn_app (goodIn_of _ (by decide +kernel)) ggX3_weigh_X3_heaviestOf
theorem dX3_weigh_0 : decode cX3_weigh 0 = .ok (.iconst 0, 1) := by decide +kernel
theorem dX3_weigh_1 : decode cX3_weigh 1 = .ok (.istore_n 2, 1) := by decide +kernel
theorem dX3_weigh_2 : decode cX3_weigh 2 = .ok (.iload_n 1, 1) := by decide +kernel
theorem dX3_weigh_3 : decode cX3_weigh 3 = .ok (.istore_n 3, 1) := by decide +kernel
theorem dX3_weigh_4 : decode cX3_weigh 4 = .ok (.iconst 0, 1) := by decide +kernel
theorem dX3_weigh_5 : decode cX3_weigh 5 = .ok (.istore 4, 2) := by decide +kernel
theorem dX3_weigh_7 : decode cX3_weigh 7 = .ok (.iload 4, 2) := by decide +kernel
theorem dX3_weigh_9 : decode cX3_weigh 9 = .ok (.bipush 12, 2) := by decide +kernel
theorem dX3_weigh_11 : decode cX3_weigh 11 = .ok (.if_icmp .ge 46, 3) := by decide +kernel
theorem dX3_weigh_14 : decode cX3_weigh 14 = .ok (.iload 4, 2) := by decide +kernel
theorem dX3_weigh_16 : decode cX3_weigh 16 = .ok (.iload_n 3, 1) := by decide +kernel
theorem dX3_weigh_17 : decode cX3_weigh 17 = .ok (.invokestatic 54, 3) := by decide +kernel
theorem dX3_weigh_20 : decode cX3_weigh 20 = .ok (.ifCond .eq 31, 3) := by decide +kernel
theorem dX3_weigh_23 : decode cX3_weigh 23 = .ok (.iload_n 2, 1) := by decide +kernel
theorem dX3_weigh_24 : decode cX3_weigh 24 = .ok (.aload_n 0, 1) := by decide +kernel
theorem dX3_weigh_25 : decode cX3_weigh 25 = .ok (.iload_n 3, 1) := by decide +kernel
theorem dX3_weigh_26 : decode cX3_weigh 26 = .ok (.aload_n 0, 1) := by decide +kernel
theorem dX3_weigh_27 : decode cX3_weigh 27 = .ok (.getfield 18, 3) := by decide +kernel
theorem dX3_weigh_30 : decode cX3_weigh 30 = .ok (.iload 4, 2) := by decide +kernel
theorem dX3_weigh_32 : decode cX3_weigh 32 = .ok (.iaload, 1) := by decide +kernel
theorem dX3_weigh_33 : decode cX3_weigh 33 = .ok (.iand, 1) := by decide +kernel
theorem dX3_weigh_34 : decode cX3_weigh 34 = .ok (.invokevirtual 58, 3) := by decide +kernel
theorem dX3_weigh_37 : decode cX3_weigh 37 = .ok (.iadd, 1) := by decide +kernel
theorem dX3_weigh_38 : decode cX3_weigh 38 = .ok (.istore_n 2, 1) := by decide +kernel
theorem dX3_weigh_39 : decode cX3_weigh 39 = .ok (.iload_n 3, 1) := by decide +kernel
theorem dX3_weigh_40 : decode cX3_weigh 40 = .ok (.aload_n 0, 1) := by decide +kernel
theorem dX3_weigh_41 : decode cX3_weigh 41 = .ok (.getfield 18, 3) := by decide +kernel
theorem dX3_weigh_44 : decode cX3_weigh 44 = .ok (.iload 4, 2) := by decide +kernel
theorem dX3_weigh_46 : decode cX3_weigh 46 = .ok (.iaload, 1) := by decide +kernel
theorem dX3_weigh_47 : decode cX3_weigh 47 = .ok (.iconst (-1), 1) := by decide +kernel
theorem dX3_weigh_48 : decode cX3_weigh 48 = .ok (.ixor, 1) := by decide +kernel
theorem dX3_weigh_49 : decode cX3_weigh 49 = .ok (.iand, 1) := by decide +kernel
theorem dX3_weigh_50 : decode cX3_weigh 50 = .ok (.istore_n 3, 1) := by decide +kernel
theorem dX3_weigh_51 : decode cX3_weigh 51 = .ok (.iinc 4 1, 3) := by decide +kernel
theorem dX3_weigh_54 : decode cX3_weigh 54 = .ok (.goto (-47), 3) := by decide +kernel
theorem dX3_weigh_57 : decode cX3_weigh 57 = .ok (.iload_n 2, 1) := by decide +kernel
theorem dX3_weigh_58 : decode cX3_weigh 58 = .ok (.ireturn, 1) := by decide +kernel
set_option maxRecDepth 20000 in
theorem ggX3_heaviestOf_X4_isIn : GoodIn wsX3_heaviestOf wsX4_isIn := goodIn_r _ [8] (by decide +kernel) (by decide +kernel)
set_option maxRecDepth 20000 in
theorem gX3_heaviestOf_X4_isIn_n54 : GoodIn wsX3_heaviestOf (wsX4_isIn) := ggX3_heaviestOf_X4_isIn
theorem dX3_heaviestOf_0 : decode cX3_heaviestOf 0 = .ok (.iconst 0, 1) := by decide +kernel
theorem dX3_heaviestOf_1 : decode cX3_heaviestOf 1 = .ok (.istore_n 2, 1) := by decide +kernel
theorem dX3_heaviestOf_2 : decode cX3_heaviestOf 2 = .ok (.iconst 0, 1) := by decide +kernel
theorem dX3_heaviestOf_3 : decode cX3_heaviestOf 3 = .ok (.istore_n 3, 1) := by decide +kernel
theorem dX3_heaviestOf_4 : decode cX3_heaviestOf 4 = .ok (.iload_n 3, 1) := by decide +kernel
theorem dX3_heaviestOf_5 : decode cX3_heaviestOf 5 = .ok (.bipush 12, 2) := by decide +kernel
theorem dX3_heaviestOf_7 : decode cX3_heaviestOf 7 = .ok (.if_icmp .ge 28, 3) := by decide +kernel
theorem dX3_heaviestOf_10 : decode cX3_heaviestOf 10 = .ok (.iload_n 3, 1) := by decide +kernel
theorem dX3_heaviestOf_11 : decode cX3_heaviestOf 11 = .ok (.iload_n 1, 1) := by decide +kernel
theorem dX3_heaviestOf_12 : decode cX3_heaviestOf 12 = .ok (.invokestatic 54, 3) := by decide +kernel
theorem dX3_heaviestOf_15 : decode cX3_heaviestOf 15 = .ok (.ifCond .eq 14, 3) := by decide +kernel
theorem dX3_heaviestOf_18 : decode cX3_heaviestOf 18 = .ok (.iload_n 2, 1) := by decide +kernel
theorem dX3_heaviestOf_19 : decode cX3_heaviestOf 19 = .ok (.aload_n 0, 1) := by decide +kernel
theorem dX3_heaviestOf_20 : decode cX3_heaviestOf 20 = .ok (.getfield 9, 3) := by decide +kernel
theorem dX3_heaviestOf_23 : decode cX3_heaviestOf 23 = .ok (.iload_n 3, 1) := by decide +kernel
theorem dX3_heaviestOf_24 : decode cX3_heaviestOf 24 = .ok (.iaload, 1) := by decide +kernel
theorem dX3_heaviestOf_25 : decode cX3_heaviestOf 25 = .ok (.invokestatic 62, 3) := by decide +kernel
theorem dX3_heaviestOf_28 : decode cX3_heaviestOf 28 = .ok (.istore_n 2, 1) := by decide +kernel
theorem dX3_heaviestOf_29 : decode cX3_heaviestOf 29 = .ok (.iinc 3 1, 3) := by decide +kernel
theorem dX3_heaviestOf_32 : decode cX3_heaviestOf 32 = .ok (.goto (-28), 3) := by decide +kernel
theorem dX3_heaviestOf_35 : decode cX3_heaviestOf 35 = .ok (.iload_n 2, 1) := by decide +kernel
theorem dX3_heaviestOf_36 : decode cX3_heaviestOf 36 = .ok (.ireturn, 1) := by decide +kernel
set_option maxRecDepth 20000 in
theorem ggX3_priceOf_X4_isIn : GoodIn wsX3_priceOf wsX4_isIn := goodIn_r _ [4] (by decide +kernel) (by decide +kernel)
set_option maxRecDepth 20000 in
theorem gX3_priceOf_X4_isIn_n54 : GoodIn wsX3_priceOf (wsX4_isIn) := ggX3_priceOf_X4_isIn
theorem dX3_priceOf_0 : decode cX3_priceOf 0 = .ok (.iconst 0, 1) := by decide +kernel
theorem dX3_priceOf_1 : decode cX3_priceOf 1 = .ok (.istore_n 2, 1) := by decide +kernel
theorem dX3_priceOf_2 : decode cX3_priceOf 2 = .ok (.iconst 0, 1) := by decide +kernel
theorem dX3_priceOf_3 : decode cX3_priceOf 3 = .ok (.istore_n 3, 1) := by decide +kernel
theorem dX3_priceOf_4 : decode cX3_priceOf 4 = .ok (.iload_n 3, 1) := by decide +kernel
theorem dX3_priceOf_5 : decode cX3_priceOf 5 = .ok (.bipush 12, 2) := by decide +kernel
theorem dX3_priceOf_7 : decode cX3_priceOf 7 = .ok (.if_icmp .ge 26, 3) := by decide +kernel
theorem dX3_priceOf_10 : decode cX3_priceOf 10 = .ok (.iload_n 3, 1) := by decide +kernel
theorem dX3_priceOf_11 : decode cX3_priceOf 11 = .ok (.iload_n 1, 1) := by decide +kernel
theorem dX3_priceOf_12 : decode cX3_priceOf 12 = .ok (.invokestatic 54, 3) := by decide +kernel
theorem dX3_priceOf_15 : decode cX3_priceOf 15 = .ok (.ifCond .eq 12, 3) := by decide +kernel
theorem dX3_priceOf_18 : decode cX3_priceOf 18 = .ok (.iload_n 2, 1) := by decide +kernel
theorem dX3_priceOf_19 : decode cX3_priceOf 19 = .ok (.aload_n 0, 1) := by decide +kernel
theorem dX3_priceOf_20 : decode cX3_priceOf 20 = .ok (.getfield 9, 3) := by decide +kernel
theorem dX3_priceOf_23 : decode cX3_priceOf 23 = .ok (.iload_n 3, 1) := by decide +kernel
theorem dX3_priceOf_24 : decode cX3_priceOf 24 = .ok (.iaload, 1) := by decide +kernel
theorem dX3_priceOf_25 : decode cX3_priceOf 25 = .ok (.iadd, 1) := by decide +kernel
theorem dX3_priceOf_26 : decode cX3_priceOf 26 = .ok (.istore_n 2, 1) := by decide +kernel
theorem dX3_priceOf_27 : decode cX3_priceOf 27 = .ok (.iinc 3 1, 3) := by decide +kernel
theorem dX3_priceOf_30 : decode cX3_priceOf 30 = .ok (.goto (-26), 3) := by decide +kernel
theorem dX3_priceOf_33 : decode cX3_priceOf 33 = .ok (.iload_n 2, 1) := by decide +kernel
theorem dX3_priceOf_34 : decode cX3_priceOf 34 = .ok (.ireturn, 1) := by decide +kernel
theorem dX3_ofKind_0 : decode cX3_ofKind 0 = .ok (.iconst 0, 1) := by decide +kernel
theorem dX3_ofKind_1 : decode cX3_ofKind 1 = .ok (.istore_n 2, 1) := by decide +kernel
theorem dX3_ofKind_2 : decode cX3_ofKind 2 = .ok (.iconst 0, 1) := by decide +kernel
theorem dX3_ofKind_3 : decode cX3_ofKind 3 = .ok (.istore_n 3, 1) := by decide +kernel
theorem dX3_ofKind_4 : decode cX3_ofKind 4 = .ok (.iload_n 3, 1) := by decide +kernel
theorem dX3_ofKind_5 : decode cX3_ofKind 5 = .ok (.bipush 12, 2) := by decide +kernel
theorem dX3_ofKind_7 : decode cX3_ofKind 7 = .ok (.if_icmp .ge 25, 3) := by decide +kernel
theorem dX3_ofKind_10 : decode cX3_ofKind 10 = .ok (.aload_n 0, 1) := by decide +kernel
theorem dX3_ofKind_11 : decode cX3_ofKind 11 = .ok (.getfield 15, 3) := by decide +kernel
theorem dX3_ofKind_14 : decode cX3_ofKind 14 = .ok (.iload_n 3, 1) := by decide +kernel
theorem dX3_ofKind_15 : decode cX3_ofKind 15 = .ok (.iaload, 1) := by decide +kernel
theorem dX3_ofKind_16 : decode cX3_ofKind 16 = .ok (.iload_n 1, 1) := by decide +kernel
theorem dX3_ofKind_17 : decode cX3_ofKind 17 = .ok (.if_icmp .ne 9, 3) := by decide +kernel
theorem dX3_ofKind_20 : decode cX3_ofKind 20 = .ok (.iload_n 2, 1) := by decide +kernel
theorem dX3_ofKind_21 : decode cX3_ofKind 21 = .ok (.iconst 1, 1) := by decide +kernel
theorem dX3_ofKind_22 : decode cX3_ofKind 22 = .ok (.iload_n 3, 1) := by decide +kernel
theorem dX3_ofKind_23 : decode cX3_ofKind 23 = .ok (.ishl, 1) := by decide +kernel
theorem dX3_ofKind_24 : decode cX3_ofKind 24 = .ok (.ior, 1) := by decide +kernel
theorem dX3_ofKind_25 : decode cX3_ofKind 25 = .ok (.istore_n 2, 1) := by decide +kernel
theorem dX3_ofKind_26 : decode cX3_ofKind 26 = .ok (.iinc 3 1, 3) := by decide +kernel
theorem dX3_ofKind_29 : decode cX3_ofKind 29 = .ok (.goto (-25), 3) := by decide +kernel
theorem dX3_ofKind_32 : decode cX3_ofKind 32 = .ok (.iload_n 2, 1) := by decide +kernel
theorem dX3_ofKind_33 : decode cX3_ofKind 33 = .ok (.ireturn, 1) := by decide +kernel
set_option maxRecDepth 20000 in
theorem ggX3_countKind_X3_ofKind : GoodIn wsX3_countKind wsX3_ofKind := goodIn_r _ [5, 6, 14, 15, 16, 17, 18, 19, 20, 21, 22, 23, 24] (by decide +kernel) (by decide +kernel)
set_option maxRecDepth 20000 in
theorem gX3_countKind_X3_ofKind : GoodIn wsX3_countKind (wsV RX3 68 RX3 yX3_ofKind wsX3_ofKind) := goodIn_app (goodIn_of _ (by decide +kernel)) ggX3_countKind_X3_ofKind
set_option maxRecDepth 20000 in
theorem ggX3_countKind_J6_bitCount_0f7a4 : GoodIn wsX3_countKind wsJ6_bitCount_0f7a4 := goodIn_r _ [10, 11, 12, 13] (by decide +kernel) (by decide +kernel)
set_option maxRecDepth 20000 in
theorem gX3_countKind_J6_bitCount_0f7a4 : GoodIn wsX3_countKind (va_wsS RX3 71 yJ6_bitCount_0f7a4 wsJ6_bitCount_0f7a4) := goodIn_app (goodIn_of _ (by decide +kernel)) ggX3_countKind_J6_bitCount_0f7a4
theorem dX3_countKind_0 : decode cX3_countKind 0 = .ok (.iload_n 1, 1) := by decide +kernel
theorem dX3_countKind_1 : decode cX3_countKind 1 = .ok (.aload_n 0, 1) := by decide +kernel
theorem dX3_countKind_2 : decode cX3_countKind 2 = .ok (.iload_n 2, 1) := by decide +kernel
theorem dX3_countKind_3 : decode cX3_countKind 3 = .ok (.invokevirtual 68, 3) := by decide +kernel
theorem dX3_countKind_6 : decode cX3_countKind 6 = .ok (.iand, 1) := by decide +kernel
theorem dX3_countKind_7 : decode cX3_countKind 7 = .ok (.invokestatic 71, 3) := by decide +kernel
theorem dX3_countKind_10 : decode cX3_countKind 10 = .ok (.ireturn, 1) := by decide +kernel
set_option maxRecDepth 20000 in
theorem ggX3_heldBy_X4_isIn : GoodIn wsX3_heldBy wsX4_isIn := goodIn_r _ [4] (by decide +kernel) (by decide +kernel)
set_option maxRecDepth 20000 in
theorem gX3_heldBy_X4_isIn_n54 : GoodIn wsX3_heldBy (wsX4_isIn) := ggX3_heldBy_X4_isIn
theorem dX3_heldBy_0 : decode cX3_heldBy 0 = .ok (.iconst 0, 1) := by decide +kernel
theorem dX3_heldBy_1 : decode cX3_heldBy 1 = .ok (.istore_n 2, 1) := by decide +kernel
theorem dX3_heldBy_2 : decode cX3_heldBy 2 = .ok (.iconst 0, 1) := by decide +kernel
theorem dX3_heldBy_3 : decode cX3_heldBy 3 = .ok (.istore_n 3, 1) := by decide +kernel
theorem dX3_heldBy_4 : decode cX3_heldBy 4 = .ok (.iload_n 3, 1) := by decide +kernel
theorem dX3_heldBy_5 : decode cX3_heldBy 5 = .ok (.iconst 4, 1) := by decide +kernel
theorem dX3_heldBy_6 : decode cX3_heldBy 6 = .ok (.if_icmp .ge 26, 3) := by decide +kernel
theorem dX3_heldBy_9 : decode cX3_heldBy 9 = .ok (.iload_n 3, 1) := by decide +kernel
theorem dX3_heldBy_10 : decode cX3_heldBy 10 = .ok (.iload_n 1, 1) := by decide +kernel
theorem dX3_heldBy_11 : decode cX3_heldBy 11 = .ok (.invokestatic 54, 3) := by decide +kernel
theorem dX3_heldBy_14 : decode cX3_heldBy 14 = .ok (.ifCond .eq 12, 3) := by decide +kernel
theorem dX3_heldBy_17 : decode cX3_heldBy 17 = .ok (.iload_n 2, 1) := by decide +kernel
theorem dX3_heldBy_18 : decode cX3_heldBy 18 = .ok (.aload_n 0, 1) := by decide +kernel
theorem dX3_heldBy_19 : decode cX3_heldBy 19 = .ok (.getfield 24, 3) := by decide +kernel
theorem dX3_heldBy_22 : decode cX3_heldBy 22 = .ok (.iload_n 3, 1) := by decide +kernel
theorem dX3_heldBy_23 : decode cX3_heldBy 23 = .ok (.iaload, 1) := by decide +kernel
theorem dX3_heldBy_24 : decode cX3_heldBy 24 = .ok (.ior, 1) := by decide +kernel
theorem dX3_heldBy_25 : decode cX3_heldBy 25 = .ok (.istore_n 2, 1) := by decide +kernel
theorem dX3_heldBy_26 : decode cX3_heldBy 26 = .ok (.iinc 3 1, 3) := by decide +kernel
theorem dX3_heldBy_29 : decode cX3_heldBy 29 = .ok (.goto (-25), 3) := by decide +kernel
theorem dX3_heldBy_32 : decode cX3_heldBy 32 = .ok (.iload_n 2, 1) := by decide +kernel
theorem dX3_heldBy_33 : decode cX3_heldBy 33 = .ok (.ireturn, 1) := by decide +kernel
set_option maxRecDepth 20000 in
theorem ggX3_countBelongings_J6_bitCount_0f7a4 : GoodIn wsX3_countBelongings wsJ6_bitCount_0f7a4 := goodIn_r _ [5, 6, 7, 8] (by decide +kernel) (by decide +kernel)
set_option maxRecDepth 20000 in
theorem gX3_countBelongings_J6_bitCount_0f7a4 : GoodIn wsX3_countBelongings (va_wsS RX3 71 yJ6_bitCount_0f7a4 wsJ6_bitCount_0f7a4) := goodIn_app (goodIn_of _ (by decide +kernel)) ggX3_countBelongings_J6_bitCount_0f7a4
theorem dX3_countBelongings_0 : decode cX3_countBelongings 0 = .ok (.iconst 0, 1) := by decide +kernel
theorem dX3_countBelongings_1 : decode cX3_countBelongings 1 = .ok (.istore_n 1, 1) := by decide +kernel
theorem dX3_countBelongings_2 : decode cX3_countBelongings 2 = .ok (.iconst 0, 1) := by decide +kernel
theorem dX3_countBelongings_3 : decode cX3_countBelongings 3 = .ok (.istore_n 2, 1) := by decide +kernel
theorem dX3_countBelongings_4 : decode cX3_countBelongings 4 = .ok (.iload_n 2, 1) := by decide +kernel
theorem dX3_countBelongings_5 : decode cX3_countBelongings 5 = .ok (.iconst 4, 1) := by decide +kernel
theorem dX3_countBelongings_6 : decode cX3_countBelongings 6 = .ok (.if_icmp .ge 21, 3) := by decide +kernel
theorem dX3_countBelongings_9 : decode cX3_countBelongings 9 = .ok (.iload_n 1, 1) := by decide +kernel
theorem dX3_countBelongings_10 : decode cX3_countBelongings 10 = .ok (.aload_n 0, 1) := by decide +kernel
theorem dX3_countBelongings_11 : decode cX3_countBelongings 11 = .ok (.getfield 24, 3) := by decide +kernel
theorem dX3_countBelongings_14 : decode cX3_countBelongings 14 = .ok (.iload_n 2, 1) := by decide +kernel
theorem dX3_countBelongings_15 : decode cX3_countBelongings 15 = .ok (.iaload, 1) := by decide +kernel
theorem dX3_countBelongings_16 : decode cX3_countBelongings 16 = .ok (.invokestatic 71, 3) := by decide +kernel
theorem dX3_countBelongings_19 : decode cX3_countBelongings 19 = .ok (.iadd, 1) := by decide +kernel
theorem dX3_countBelongings_20 : decode cX3_countBelongings 20 = .ok (.istore_n 1, 1) := by decide +kernel
theorem dX3_countBelongings_21 : decode cX3_countBelongings 21 = .ok (.iinc 2 1, 3) := by decide +kernel
theorem dX3_countBelongings_24 : decode cX3_countBelongings 24 = .ok (.goto (-20), 3) := by decide +kernel
theorem dX3_countBelongings_27 : decode cX3_countBelongings 27 = .ok (.iload_n 1, 1) := by decide +kernel
theorem dX3_countBelongings_28 : decode cX3_countBelongings 28 = .ok (.ireturn, 1) := by decide +kernel
set_option maxRecDepth 20000 in
theorem ggX3_canSayOnce_X3_countKind : GoodIn wsX3_canSayOnce wsX3_countKind := goodIn_r _ [5, 6, 7, 8, 4, 9, 10, 11, 12, 13, 14, 15, 16, 17, 18, 19, 20, 21, 22, 23, 24, 25, 26, 27, 28] (by decide +kernel) (by decide +kernel)
set_option maxRecDepth 20000 in
theorem gX3_canSayOnce_X3_countKind : GoodIn wsX3_canSayOnce (wsV RX3 76 RX3 yX3_countKind wsX3_countKind) := goodIn_app (goodIn_of _ (by decide +kernel)) ggX3_canSayOnce_X3_countKind
theorem dX3_canSayOnce_0 : decode cX3_canSayOnce 0 = .ok (.aload_n 0, 1) := by decide +kernel
theorem dX3_canSayOnce_1 : decode cX3_canSayOnce 1 = .ok (.iload_n 1, 1) := by decide +kernel
theorem dX3_canSayOnce_2 : decode cX3_canSayOnce 2 = .ok (.iconst 0, 1) := by decide +kernel
theorem dX3_canSayOnce_3 : decode cX3_canSayOnce 3 = .ok (.invokevirtual 76, 3) := by decide +kernel
theorem dX3_canSayOnce_6 : decode cX3_canSayOnce 6 = .ok (.istore_n 3, 1) := by decide +kernel
theorem dX3_canSayOnce_7 : decode cX3_canSayOnce 7 = .ok (.aload_n 0, 1) := by decide +kernel
theorem dX3_canSayOnce_8 : decode cX3_canSayOnce 8 = .ok (.iload_n 1, 1) := by decide +kernel
theorem dX3_canSayOnce_9 : decode cX3_canSayOnce 9 = .ok (.iconst 2, 1) := by decide +kernel
theorem dX3_canSayOnce_10 : decode cX3_canSayOnce 10 = .ok (.invokevirtual 76, 3) := by decide +kernel
theorem dX3_canSayOnce_13 : decode cX3_canSayOnce 13 = .ok (.istore 4, 2) := by decide +kernel
theorem dX3_canSayOnce_15 : decode cX3_canSayOnce 15 = .ok (.iload_n 2, 1) := by decide +kernel
theorem dX3_canSayOnce_16 : decode cX3_canSayOnce 16 = .ok (.iconst 2, 1) := by decide +kernel
theorem dX3_canSayOnce_17 : decode cX3_canSayOnce 17 = .ok (.if_icmp .lt 18, 3) := by decide +kernel
theorem dX3_canSayOnce_20 : decode cX3_canSayOnce 20 = .ok (.iload_n 3, 1) := by decide +kernel
theorem dX3_canSayOnce_21 : decode cX3_canSayOnce 21 = .ok (.iconst 1, 1) := by decide +kernel
theorem dX3_canSayOnce_22 : decode cX3_canSayOnce 22 = .ok (.if_icmp .lt 13, 3) := by decide +kernel
theorem dX3_canSayOnce_25 : decode cX3_canSayOnce 25 = .ok (.aload_n 0, 1) := by decide +kernel
theorem dX3_canSayOnce_26 : decode cX3_canSayOnce 26 = .ok (.iload_n 1, 1) := by decide +kernel
theorem dX3_canSayOnce_27 : decode cX3_canSayOnce 27 = .ok (.iconst 1, 1) := by decide +kernel
theorem dX3_canSayOnce_28 : decode cX3_canSayOnce 28 = .ok (.invokevirtual 76, 3) := by decide +kernel
theorem dX3_canSayOnce_31 : decode cX3_canSayOnce 31 = .ok (.iconst 1, 1) := by decide +kernel
theorem dX3_canSayOnce_32 : decode cX3_canSayOnce 32 = .ok (.if_icmp .ge 5, 3) := by decide +kernel
theorem dX3_canSayOnce_35 : decode cX3_canSayOnce 35 = .ok (.iconst 0, 1) := by decide +kernel
theorem dX3_canSayOnce_36 : decode cX3_canSayOnce 36 = .ok (.ireturn, 1) := by decide +kernel
theorem dX3_canSayOnce_37 : decode cX3_canSayOnce 37 = .ok (.iload 4, 2) := by decide +kernel
theorem dX3_canSayOnce_39 : decode cX3_canSayOnce 39 = .ok (.iload_n 2, 1) := by decide +kernel
theorem dX3_canSayOnce_40 : decode cX3_canSayOnce 40 = .ok (.iconst 2, 1) := by decide +kernel
theorem dX3_canSayOnce_41 : decode cX3_canSayOnce 41 = .ok (.isub, 1) := by decide +kernel
theorem dX3_canSayOnce_42 : decode cX3_canSayOnce 42 = .ok (.if_icmp .ge 21, 3) := by decide +kernel
theorem dX3_canSayOnce_45 : decode cX3_canSayOnce 45 = .ok (.iload_n 2, 1) := by decide +kernel
theorem dX3_canSayOnce_46 : decode cX3_canSayOnce 46 = .ok (.iconst 3, 1) := by decide +kernel
theorem dX3_canSayOnce_47 : decode cX3_canSayOnce 47 = .ok (.if_icmp .lt 20, 3) := by decide +kernel
theorem dX3_canSayOnce_50 : decode cX3_canSayOnce 50 = .ok (.iload_n 3, 1) := by decide +kernel
theorem dX3_canSayOnce_51 : decode cX3_canSayOnce 51 = .ok (.iconst 2, 1) := by decide +kernel
theorem dX3_canSayOnce_52 : decode cX3_canSayOnce 52 = .ok (.if_icmp .lt 15, 3) := by decide +kernel
theorem dX3_canSayOnce_55 : decode cX3_canSayOnce 55 = .ok (.iload 4, 2) := by decide +kernel
theorem dX3_canSayOnce_57 : decode cX3_canSayOnce 57 = .ok (.iload_n 2, 1) := by decide +kernel
theorem dX3_canSayOnce_58 : decode cX3_canSayOnce 58 = .ok (.iconst 3, 1) := by decide +kernel
theorem dX3_canSayOnce_59 : decode cX3_canSayOnce 59 = .ok (.isub, 1) := by decide +kernel
theorem dX3_canSayOnce_60 : decode cX3_canSayOnce 60 = .ok (.if_icmp .lt 7, 3) := by decide +kernel
theorem dX3_canSayOnce_63 : decode cX3_canSayOnce 63 = .ok (.iconst 1, 1) := by decide +kernel
theorem dX3_canSayOnce_64 : decode cX3_canSayOnce 64 = .ok (.goto 4, 3) := by decide +kernel
theorem dX3_canSayOnce_67 : decode cX3_canSayOnce 67 = .ok (.iconst 0, 1) := by decide +kernel
theorem dX3_canSayOnce_68 : decode cX3_canSayOnce 68 = .ok (.ireturn, 1) := by decide +kernel
theorem dX3_grantsAll_0 : decode cX3_grantsAll 0 = .ok (.iconst 0, 1) := by decide +kernel
theorem dX3_grantsAll_1 : decode cX3_grantsAll 1 = .ok (.istore_n 2, 1) := by decide +kernel
theorem dX3_grantsAll_2 : decode cX3_grantsAll 2 = .ok (.iload_n 2, 1) := by decide +kernel
theorem dX3_grantsAll_3 : decode cX3_grantsAll 3 = .ok (.aload_n 0, 1) := by decide +kernel
theorem dX3_grantsAll_4 : decode cX3_grantsAll 4 = .ok (.getfield 30, 3) := by decide +kernel
theorem dX3_grantsAll_7 : decode cX3_grantsAll 7 = .ok (.if_icmp .ge 28, 3) := by decide +kernel
theorem dX3_grantsAll_10 : decode cX3_grantsAll 10 = .ok (.iload_n 2, 1) := by decide +kernel
theorem dX3_grantsAll_11 : decode cX3_grantsAll 11 = .ok (.bipush 8, 2) := by decide +kernel
theorem dX3_grantsAll_13 : decode cX3_grantsAll 13 = .ok (.if_icmp .ge 22, 3) := by decide +kernel
theorem dX3_grantsAll_16 : decode cX3_grantsAll 16 = .ok (.aload_n 0, 1) := by decide +kernel
theorem dX3_grantsAll_17 : decode cX3_grantsAll 17 = .ok (.getfield 27, 3) := by decide +kernel
theorem dX3_grantsAll_20 : decode cX3_grantsAll 20 = .ok (.iload_n 2, 1) := by decide +kernel
theorem dX3_grantsAll_21 : decode cX3_grantsAll 21 = .ok (.iaload, 1) := by decide +kernel
theorem dX3_grantsAll_22 : decode cX3_grantsAll 22 = .ok (.iload_n 1, 1) := by decide +kernel
theorem dX3_grantsAll_23 : decode cX3_grantsAll 23 = .ok (.iand, 1) := by decide +kernel
theorem dX3_grantsAll_24 : decode cX3_grantsAll 24 = .ok (.ifCond .ne 5, 3) := by decide +kernel
theorem dX3_grantsAll_27 : decode cX3_grantsAll 27 = .ok (.iconst 0, 1) := by decide +kernel
theorem dX3_grantsAll_28 : decode cX3_grantsAll 28 = .ok (.ireturn, 1) := by decide +kernel
theorem dX3_grantsAll_29 : decode cX3_grantsAll 29 = .ok (.iinc 2 1, 3) := by decide +kernel
theorem dX3_grantsAll_32 : decode cX3_grantsAll 32 = .ok (.goto (-30), 3) := by decide +kernel
theorem dX3_grantsAll_35 : decode cX3_grantsAll 35 = .ok (.iconst 1, 1) := by decide +kernel
theorem dX3_grantsAll_36 : decode cX3_grantsAll 36 = .ok (.ireturn, 1) := by decide +kernel
theorem dX3_suspects_0 : decode cX3_suspects 0 = .ok (.sipush 4095, 3) := by decide +kernel
theorem dX3_suspects_3 : decode cX3_suspects 3 = .ok (.istore_n 1, 1) := by decide +kernel
theorem dX3_suspects_4 : decode cX3_suspects 4 = .ok (.iconst 0, 1) := by decide +kernel
theorem dX3_suspects_5 : decode cX3_suspects 5 = .ok (.istore_n 2, 1) := by decide +kernel
theorem dX3_suspects_6 : decode cX3_suspects 6 = .ok (.iload_n 2, 1) := by decide +kernel
theorem dX3_suspects_7 : decode cX3_suspects 7 = .ok (.aload_n 0, 1) := by decide +kernel
theorem dX3_suspects_8 : decode cX3_suspects 8 = .ok (.getfield 43, 3) := by decide +kernel
theorem dX3_suspects_11 : decode cX3_suspects 11 = .ok (.if_icmp .ge 76, 3) := by decide +kernel
theorem dX3_suspects_14 : decode cX3_suspects 14 = .ok (.iload_n 2, 1) := by decide +kernel
theorem dX3_suspects_15 : decode cX3_suspects 15 = .ok (.bipush 6, 2) := by decide +kernel
theorem dX3_suspects_17 : decode cX3_suspects 17 = .ok (.if_icmp .ge 70, 3) := by decide +kernel
theorem dX3_suspects_20 : decode cX3_suspects 20 = .ok (.aload_n 0, 1) := by decide +kernel
theorem dX3_suspects_21 : decode cX3_suspects 21 = .ok (.getfield 40, 3) := by decide +kernel
theorem dX3_suspects_24 : decode cX3_suspects 24 = .ok (.iload_n 2, 1) := by decide +kernel
theorem dX3_suspects_25 : decode cX3_suspects 25 = .ok (.iaload, 1) := by decide +kernel
theorem dX3_suspects_26 : decode cX3_suspects 26 = .ok (.ifCond .ne 15, 3) := by decide +kernel
theorem dX3_suspects_29 : decode cX3_suspects 29 = .ok (.iload_n 1, 1) := by decide +kernel
theorem dX3_suspects_30 : decode cX3_suspects 30 = .ok (.aload_n 0, 1) := by decide +kernel
theorem dX3_suspects_31 : decode cX3_suspects 31 = .ok (.getfield 34, 3) := by decide +kernel
theorem dX3_suspects_34 : decode cX3_suspects 34 = .ok (.iload_n 2, 1) := by decide +kernel
theorem dX3_suspects_35 : decode cX3_suspects 35 = .ok (.iaload, 1) := by decide +kernel
theorem dX3_suspects_36 : decode cX3_suspects 36 = .ok (.iand, 1) := by decide +kernel
theorem dX3_suspects_37 : decode cX3_suspects 37 = .ok (.istore_n 1, 1) := by decide +kernel
theorem dX3_suspects_38 : decode cX3_suspects 38 = .ok (.goto 43, 3) := by decide +kernel
theorem dX3_suspects_41 : decode cX3_suspects 41 = .ok (.aload_n 0, 1) := by decide +kernel
theorem dX3_suspects_42 : decode cX3_suspects 42 = .ok (.getfield 40, 3) := by decide +kernel
theorem dX3_suspects_45 : decode cX3_suspects 45 = .ok (.iload_n 2, 1) := by decide +kernel
theorem dX3_suspects_46 : decode cX3_suspects 46 = .ok (.iaload, 1) := by decide +kernel
theorem dX3_suspects_47 : decode cX3_suspects 47 = .ok (.iconst 1, 1) := by decide +kernel
theorem dX3_suspects_48 : decode cX3_suspects 48 = .ok (.if_icmp .ne 15, 3) := by decide +kernel
theorem dX3_suspects_51 : decode cX3_suspects 51 = .ok (.iload_n 1, 1) := by decide +kernel
theorem dX3_suspects_52 : decode cX3_suspects 52 = .ok (.aload_n 0, 1) := by decide +kernel
theorem dX3_suspects_53 : decode cX3_suspects 53 = .ok (.getfield 37, 3) := by decide +kernel
theorem dX3_suspects_56 : decode cX3_suspects 56 = .ok (.iload_n 2, 1) := by decide +kernel
theorem dX3_suspects_57 : decode cX3_suspects 57 = .ok (.iaload, 1) := by decide +kernel
theorem dX3_suspects_58 : decode cX3_suspects 58 = .ok (.iand, 1) := by decide +kernel
theorem dX3_suspects_59 : decode cX3_suspects 59 = .ok (.istore_n 1, 1) := by decide +kernel
theorem dX3_suspects_60 : decode cX3_suspects 60 = .ok (.goto 21, 3) := by decide +kernel
theorem dX3_suspects_63 : decode cX3_suspects 63 = .ok (.iload_n 1, 1) := by decide +kernel
theorem dX3_suspects_64 : decode cX3_suspects 64 = .ok (.aload_n 0, 1) := by decide +kernel
theorem dX3_suspects_65 : decode cX3_suspects 65 = .ok (.getfield 34, 3) := by decide +kernel
theorem dX3_suspects_68 : decode cX3_suspects 68 = .ok (.iload_n 2, 1) := by decide +kernel
theorem dX3_suspects_69 : decode cX3_suspects 69 = .ok (.iaload, 1) := by decide +kernel
theorem dX3_suspects_70 : decode cX3_suspects 70 = .ok (.aload_n 0, 1) := by decide +kernel
theorem dX3_suspects_71 : decode cX3_suspects 71 = .ok (.getfield 37, 3) := by decide +kernel
theorem dX3_suspects_74 : decode cX3_suspects 74 = .ok (.iload_n 2, 1) := by decide +kernel
theorem dX3_suspects_75 : decode cX3_suspects 75 = .ok (.iaload, 1) := by decide +kernel
theorem dX3_suspects_76 : decode cX3_suspects 76 = .ok (.ior, 1) := by decide +kernel
theorem dX3_suspects_77 : decode cX3_suspects 77 = .ok (.iconst (-1), 1) := by decide +kernel
theorem dX3_suspects_78 : decode cX3_suspects 78 = .ok (.ixor, 1) := by decide +kernel
theorem dX3_suspects_79 : decode cX3_suspects 79 = .ok (.iand, 1) := by decide +kernel
theorem dX3_suspects_80 : decode cX3_suspects 80 = .ok (.istore_n 1, 1) := by decide +kernel
theorem dX3_suspects_81 : decode cX3_suspects 81 = .ok (.iinc 2 1, 3) := by decide +kernel
theorem dX3_suspects_84 : decode cX3_suspects 84 = .ok (.goto (-78), 3) := by decide +kernel
theorem dX3_suspects_87 : decode cX3_suspects 87 = .ok (.iload_n 1, 1) := by decide +kernel
theorem dX3_suspects_88 : decode cX3_suspects 88 = .ok (.ireturn, 1) := by decide +kernel
set_option maxRecDepth 20000 in
theorem ggX3_perform_X4_isSpeaker : GoodIn wsX3_perform wsX4_isSpeaker := goodIn_r _ [3, 4, 5, 2, 6] (by decide +kernel) (by decide +kernel)
set_option maxRecDepth 20000 in
theorem gX3_perform_X4_isSpeaker_n79 : GoodIn wsX3_perform (wsX4_isSpeaker) := ggX3_perform_X4_isSpeaker
set_option maxRecDepth 20000 in
theorem ggX3_perform_X4_isWord : GoodIn wsX3_perform wsX4_isWord := goodIn_r _ [8, 4, 5, 2, 6] (by decide +kernel) (by decide +kernel)
set_option maxRecDepth 20000 in
theorem gX3_perform_X4_isWord_n50 : GoodIn wsX3_perform (wsX4_isWord) := ggX3_perform_X4_isWord
