theorem dX5_judge_43 : decode cX5_judge 43 = .ok (.iload_n 1, 1) := by decide +kernel
theorem dX5_judge_44 : decode cX5_judge 44 = .ok (.ifCond .ne 10, 3) := by decide +kernel
theorem dX5_judge_47 : decode cX5_judge 47 = .ok (.aload_n 0, 1) := by decide +kernel
theorem dX5_judge_48 : decode cX5_judge 48 = .ok (.getfield 167, 3) := by decide +kernel
theorem dX5_judge_51 : decode cX5_judge 51 = .ok (.goto 19, 3) := by decide +kernel
theorem dX5_judge_54 : decode cX5_judge 54 = .ok (.iload_n 1, 1) := by decide +kernel
theorem dX5_judge_55 : decode cX5_judge 55 = .ok (.iconst 1, 1) := by decide +kernel
theorem dX5_judge_56 : decode cX5_judge 56 = .ok (.if_icmp .ne 10, 3) := by decide +kernel
theorem dX5_judge_59 : decode cX5_judge 59 = .ok (.aload_n 0, 1) := by decide +kernel
theorem dX5_judge_60 : decode cX5_judge 60 = .ok (.getfield 170, 3) := by decide +kernel
theorem dX5_judge_63 : decode cX5_judge 63 = .ok (.goto 7, 3) := by decide +kernel
theorem dX5_judge_66 : decode cX5_judge 66 = .ok (.aload_n 0, 1) := by decide +kernel
theorem dX5_judge_67 : decode cX5_judge 67 = .ok (.getfield 157, 3) := by decide +kernel
theorem dX5_judge_70 : decode cX5_judge 70 = .ok (.ireturn, 1) := by decide +kernel
set_option maxRecDepth 20000 in
theorem ggX5_behind_X5_isSpeaker : GoodIn wsX5_behind wsX5_isSpeaker := goodIn_r _ [6, 7, 8, 9, 5, 10] (by decide +kernel) (by decide +kernel)
set_option maxRecDepth 20000 in
theorem gX5_behind_X5_isSpeaker : GoodIn wsX5_behind (va_wsS RX5 95 yX5_isSpeaker wsX5_isSpeaker) := goodIn_app (goodIn_of _ (by decide +kernel)) ggX5_behind_X5_isSpeaker
set_option maxRecDepth 20000 in
theorem ggX5_behind_X5_in : GoodIn wsX5_behind wsX5_in := goodIn_r _ [10] (by decide +kernel) (by decide +kernel)
set_option maxRecDepth 20000 in
theorem gX5_behind_X5_in : GoodIn wsX5_behind (va_wsS RX5 71 yX5_in wsX5_in) := goodIn_app (goodIn_of _ (by decide +kernel)) ggX5_behind_X5_in
set_option maxRecDepth 20000 in
theorem ggX5_behind_X5_refusal : GoodIn wsX5_behind wsX5_refusal := goodIn_r _ [14, 15, 16, 17, 18, 5, 19, 20, 21, 1, 2, 22, 23, 24, 25, 26, 27, 28, 29, 30, 31, 32, 33, 34, 35, 36, 37, 38, 39, 40, 41, 42, 43, 44, 8, 9, 10, 45, 46, 47, 48, 49, 50, 51, 52, 53, 54, 55, 56, 57, 58, 59, 60, 61, 62, 63, 64, 65, 66, 67, 68, 69, 70, 71, 72, 73, 74, 75, 76, 77, 78, 79, 80, 81, 82, 83, 84, 85, 86, 87, 88, 93, 94, 95, 96, 97, 98, 99, 100, 101, 102, 103, 104, 105, 106, 107, 108, 109, 110, 111, 112, 113, 114, 115, 116, 117, 118, 119, 120, 121, 122, 123, 124, 125] (by decide +kernel) (by decide +kernel)
set_option maxRecDepth 20000 in
theorem gX5_behind_X5_refusal : GoodIn wsX5_behind (wsV RX5 190 RX5 yX5_refusal wsX5_refusal) := goodIn_app (goodIn_of _ (by decide +kernel)) ggX5_behind_X5_refusal
set_option maxRecDepth 20000 in
theorem ggX5_behind_X5_back : GoodIn wsX5_behind wsX5_back := goodIn_r _ [92, 21, 20, 1, 2, 93, 94, 95, 96, 97, 98, 99, 100, 101, 102, 103, 104, 105, 106, 107, 108, 109, 110, 111, 112, 113, 114, 115, 116, 117, 118, 119, 120, 121, 122, 123, 124, 125] (by decide +kernel) (by decide +kernel)
set_option maxRecDepth 20000 in
theorem gX5_behind_X5_back : GoodIn wsX5_behind (wsV RX5 193 RX5 yX5_back wsX5_back) := goodIn_app (goodIn_of _ (by decide +kernel)) ggX5_behind_X5_back
theorem dX5_behind_0 : decode cX5_behind 0 = .ok (.iload_n 1, 1) := by decide +kernel
theorem dX5_behind_1 : decode cX5_behind 1 = .ok (.invokestatic 95, 3) := by decide +kernel
theorem dX5_behind_4 : decode cX5_behind 4 = .ok (.ifCond .ne 5, 3) := by decide +kernel
theorem dX5_behind_7 : decode cX5_behind 7 = .ok (.iconst (-1), 1) := by decide +kernel
theorem dX5_behind_8 : decode cX5_behind 8 = .ok (.ireturn, 1) := by decide +kernel
theorem dX5_behind_9 : decode cX5_behind 9 = .ok (.iload_n 2, 1) := by decide +kernel
theorem dX5_behind_10 : decode cX5_behind 10 = .ok (.i2l, 1) := by decide +kernel
theorem dX5_behind_11 : decode cX5_behind 11 = .ok (.lconst 0, 1) := by decide +kernel
theorem dX5_behind_12 : decode cX5_behind 12 = .ok (.lconst 1, 1) := by decide +kernel
theorem dX5_behind_13 : decode cX5_behind 13 = .ok (.invokestatic 71, 3) := by decide +kernel
theorem dX5_behind_16 : decode cX5_behind 16 = .ok (.ifCond .ne 6, 3) := by decide +kernel
theorem dX5_behind_19 : decode cX5_behind 19 = .ok (.bipush (-2), 2) := by decide +kernel
theorem dX5_behind_21 : decode cX5_behind 21 = .ok (.ireturn, 1) := by decide +kernel
theorem dX5_behind_22 : decode cX5_behind 22 = .ok (.aload_n 0, 1) := by decide +kernel
theorem dX5_behind_23 : decode cX5_behind 23 = .ok (.invokevirtual 190, 3) := by decide +kernel
theorem dX5_behind_26 : decode cX5_behind 26 = .ok (.istore_n 3, 1) := by decide +kernel
theorem dX5_behind_27 : decode cX5_behind 27 = .ok (.aload_n 0, 1) := by decide +kernel
theorem dX5_behind_28 : decode cX5_behind 28 = .ok (.iload_n 3, 1) := by decide +kernel
theorem dX5_behind_29 : decode cX5_behind 29 = .ok (.bipush (-6), 2) := by decide +kernel
theorem dX5_behind_31 : decode cX5_behind 31 = .ok (.if_icmp .eq 7, 3) := by decide +kernel
theorem dX5_behind_34 : decode cX5_behind 34 = .ok (.iload_n 3, 1) := by decide +kernel
theorem dX5_behind_35 : decode cX5_behind 35 = .ok (.goto 22, 3) := by decide +kernel
theorem dX5_behind_38 : decode cX5_behind 38 = .ok (.iload_n 2, 1) := by decide +kernel
theorem dX5_behind_39 : decode cX5_behind 39 = .ok (.ifCond .ne 12, 3) := by decide +kernel
theorem dX5_behind_42 : decode cX5_behind 42 = .ok (.aload_n 0, 1) := by decide +kernel
theorem dX5_behind_43 : decode cX5_behind 43 = .ok (.getfield 19, 3) := by decide +kernel
theorem dX5_behind_46 : decode cX5_behind 46 = .ok (.iload_n 1, 1) := by decide +kernel
theorem dX5_behind_47 : decode cX5_behind 47 = .ok (.iaload, 1) := by decide +kernel
theorem dX5_behind_48 : decode cX5_behind 48 = .ok (.goto 9, 3) := by decide +kernel
theorem dX5_behind_51 : decode cX5_behind 51 = .ok (.aload_n 0, 1) := by decide +kernel
theorem dX5_behind_52 : decode cX5_behind 52 = .ok (.getfield 22, 3) := by decide +kernel
theorem dX5_behind_55 : decode cX5_behind 55 = .ok (.iload_n 1, 1) := by decide +kernel
theorem dX5_behind_56 : decode cX5_behind 56 = .ok (.iaload, 1) := by decide +kernel
theorem dX5_behind_57 : decode cX5_behind 57 = .ok (.invokevirtual 193, 3) := by decide +kernel
theorem dX5_behind_60 : decode cX5_behind 60 = .ok (.ireturn, 1) := by decide +kernel
set_option maxRecDepth 20000 in
theorem ggX5_worn_X5_isWord : GoodIn wsX5_worn wsX5_isWord := goodIn_r _ [5, 6, 7, 8, 4, 9] (by decide +kernel) (by decide +kernel)
set_option maxRecDepth 20000 in
theorem gX5_worn_X5_isWord : GoodIn wsX5_worn (va_wsS RX5 77 yX5_isWord wsX5_isWord) := goodIn_app (goodIn_of _ (by decide +kernel)) ggX5_worn_X5_isWord
set_option maxRecDepth 20000 in
theorem ggX5_worn_X5_refusal : GoodIn wsX5_worn wsX5_refusal := goodIn_r _ [13, 14, 15, 16, 17, 4, 18, 19, 1, 20, 21, 22, 23, 24, 25, 26, 27, 28, 29, 30, 31, 32, 33, 34, 35, 36, 37, 38, 39, 40, 41, 42, 43, 44, 7, 8, 9, 45, 46, 47, 48, 49, 50, 51, 52, 53, 54, 55, 56, 57, 58, 59, 60, 61, 62, 63, 64, 65, 66, 67, 68, 69, 70, 71, 72, 73, 74, 75, 76, 77, 78, 79, 80, 81, 82, 83, 84, 85, 86, 87, 88, 93, 94, 95, 96, 97, 98, 99, 100, 101, 102, 103, 104, 105, 106, 107, 108, 109, 110, 111, 112, 113, 114, 115, 116, 117, 118, 119, 120, 121, 122, 123, 124, 125] (by decide +kernel) (by decide +kernel)
set_option maxRecDepth 20000 in
theorem gX5_worn_X5_refusal : GoodIn wsX5_worn (wsV RX5 190 RX5 yX5_refusal wsX5_refusal) := goodIn_app (goodIn_of _ (by decide +kernel)) ggX5_worn_X5_refusal
set_option maxRecDepth 20000 in
theorem ggX5_worn_X5_back : GoodIn wsX5_worn wsX5_back := goodIn_r _ [92, 1, 19, 20, 21, 93, 94, 95, 96, 97, 98, 99, 100, 101, 102, 103, 104, 105, 106, 107, 108, 109, 110, 111, 112, 113, 114, 115, 116, 117, 118, 119, 120, 121, 122, 123, 124, 125] (by decide +kernel) (by decide +kernel)
set_option maxRecDepth 20000 in
theorem gX5_worn_X5_back : GoodIn wsX5_worn (wsV RX5 193 RX5 yX5_back wsX5_back) := goodIn_app (goodIn_of _ (by decide +kernel)) ggX5_worn_X5_back
theorem dX5_worn_0 : decode cX5_worn 0 = .ok (.iload_n 1, 1) := by decide +kernel
theorem dX5_worn_1 : decode cX5_worn 1 = .ok (.invokestatic 77, 3) := by decide +kernel
theorem dX5_worn_4 : decode cX5_worn 4 = .ok (.ifCond .ne 5, 3) := by decide +kernel
theorem dX5_worn_7 : decode cX5_worn 7 = .ok (.iconst (-1), 1) := by decide +kernel
theorem dX5_worn_8 : decode cX5_worn 8 = .ok (.ireturn, 1) := by decide +kernel
theorem dX5_worn_9 : decode cX5_worn 9 = .ok (.aload_n 0, 1) := by decide +kernel
theorem dX5_worn_10 : decode cX5_worn 10 = .ok (.invokevirtual 190, 3) := by decide +kernel
theorem dX5_worn_13 : decode cX5_worn 13 = .ok (.istore_n 2, 1) := by decide +kernel
theorem dX5_worn_14 : decode cX5_worn 14 = .ok (.aload_n 0, 1) := by decide +kernel
theorem dX5_worn_15 : decode cX5_worn 15 = .ok (.iload_n 2, 1) := by decide +kernel
theorem dX5_worn_16 : decode cX5_worn 16 = .ok (.bipush (-6), 2) := by decide +kernel
theorem dX5_worn_18 : decode cX5_worn 18 = .ok (.if_icmp .eq 7, 3) := by decide +kernel
theorem dX5_worn_21 : decode cX5_worn 21 = .ok (.iload_n 2, 1) := by decide +kernel
theorem dX5_worn_22 : decode cX5_worn 22 = .ok (.goto 9, 3) := by decide +kernel
theorem dX5_worn_25 : decode cX5_worn 25 = .ok (.aload_n 0, 1) := by decide +kernel
theorem dX5_worn_26 : decode cX5_worn 26 = .ok (.getfield 7, 3) := by decide +kernel
theorem dX5_worn_29 : decode cX5_worn 29 = .ok (.iload_n 1, 1) := by decide +kernel
theorem dX5_worn_30 : decode cX5_worn 30 = .ok (.iaload, 1) := by decide +kernel
theorem dX5_worn_31 : decode cX5_worn 31 = .ok (.invokevirtual 193, 3) := by decide +kernel
theorem dX5_worn_34 : decode cX5_worn 34 = .ok (.ireturn, 1) := by decide +kernel
set_option maxRecDepth 20000 in
theorem ggX5_said_X5_in : GoodIn wsX5_said wsX5_in := goodIn_r _ [8] (by decide +kernel) (by decide +kernel)
set_option maxRecDepth 20000 in
theorem gX5_said_X5_in : GoodIn wsX5_said (va_wsS RX5 71 yX5_in wsX5_in) := goodIn_app (goodIn_of _ (by decide +kernel)) ggX5_said_X5_in
set_option maxRecDepth 20000 in
theorem ggX5_said_X5_refusal : GoodIn wsX5_said wsX5_refusal := goodIn_r _ [12, 13, 14, 15, 16, 7, 17, 18, 19, 20, 21, 22, 23, 24, 25, 26, 27, 28, 29, 30, 31, 32, 33, 34, 35, 36, 37, 38, 39, 40, 41, 42, 43, 44, 5, 6, 8, 45, 46, 47, 48, 49, 50, 51, 52, 53, 54, 55, 56, 57, 58, 59, 60, 61, 62, 2, 4, 63, 64, 3, 65, 66, 67, 68, 69, 70, 71, 72, 73, 74, 75, 76, 77, 78, 79, 80, 81, 82, 83, 84, 85, 90, 91, 92, 93, 94, 95, 96, 97, 98, 99, 100, 101, 102, 103, 104, 105, 106, 107, 108, 109, 110, 111, 112, 113, 114, 115, 116, 117, 118, 119, 120, 121, 122] (by decide +kernel) (by decide +kernel)
set_option maxRecDepth 20000 in
theorem gX5_said_X5_refusal : GoodIn wsX5_said (wsV RX5 190 RX5 yX5_refusal wsX5_refusal) := goodIn_app (goodIn_of _ (by decide +kernel)) ggX5_said_X5_refusal
set_option maxRecDepth 20000 in
theorem ggX5_said_X5_back : GoodIn wsX5_said wsX5_back := goodIn_r _ [89, 19, 18, 20, 21, 90, 91, 92, 93, 94, 95, 96, 97, 98, 99, 100, 101, 102, 103, 104, 105, 106, 107, 108, 109, 110, 111, 112, 113, 114, 115, 116, 117, 118, 119, 120, 121, 122] (by decide +kernel) (by decide +kernel)
set_option maxRecDepth 20000 in
theorem gX5_said_X5_back : GoodIn wsX5_said (wsV RX5 193 RX5 yX5_back wsX5_back) := goodIn_app (goodIn_of _ (by decide +kernel)) ggX5_said_X5_back
theorem dX5_said_0 : decode cX5_said 0 = .ok (.iload_n 1, 1) := by decide +kernel
theorem dX5_said_1 : decode cX5_said 1 = .ok (.i2l, 1) := by decide +kernel
theorem dX5_said_2 : decode cX5_said 2 = .ok (.lconst 0, 1) := by decide +kernel
theorem dX5_said_3 : decode cX5_said 3 = .ok (.ldc2_w 83, 3) := by decide +kernel
theorem dX5_said_6 : decode cX5_said 6 = .ok (.invokestatic 71, 3) := by decide +kernel
theorem dX5_said_9 : decode cX5_said 9 = .ok (.ifCond .ne 6, 3) := by decide +kernel
theorem dX5_said_12 : decode cX5_said 12 = .ok (.bipush (-2), 2) := by decide +kernel
theorem dX5_said_14 : decode cX5_said 14 = .ok (.ireturn, 1) := by decide +kernel
theorem dX5_said_15 : decode cX5_said 15 = .ok (.aload_n 0, 1) := by decide +kernel
theorem dX5_said_16 : decode cX5_said 16 = .ok (.aload_n 0, 1) := by decide +kernel
theorem dX5_said_17 : decode cX5_said 17 = .ok (.invokevirtual 190, 3) := by decide +kernel
theorem dX5_said_20 : decode cX5_said 20 = .ok (.invokevirtual 193, 3) := by decide +kernel
theorem dX5_said_23 : decode cX5_said 23 = .ok (.istore_n 2, 1) := by decide +kernel
theorem dX5_said_24 : decode cX5_said 24 = .ok (.iload_n 2, 1) := by decide +kernel
theorem dX5_said_25 : decode cX5_said 25 = .ok (.bipush (-6), 2) := by decide +kernel
theorem dX5_said_27 : decode cX5_said 27 = .ok (.if_icmp .eq 7, 3) := by decide +kernel
theorem dX5_said_30 : decode cX5_said 30 = .ok (.iload_n 2, 1) := by decide +kernel
theorem dX5_said_31 : decode cX5_said 31 = .ok (.goto 30, 3) := by decide +kernel
theorem dX5_said_34 : decode cX5_said 34 = .ok (.iload_n 1, 1) := by decide +kernel
theorem dX5_said_35 : decode cX5_said 35 = .ok (.ifCond .ne 10, 3) := by decide +kernel
theorem dX5_said_38 : decode cX5_said 38 = .ok (.aload_n 0, 1) := by decide +kernel
theorem dX5_said_39 : decode cX5_said 39 = .ok (.getfield 142, 3) := by decide +kernel
theorem dX5_said_42 : decode cX5_said 42 = .ok (.goto 19, 3) := by decide +kernel
theorem dX5_said_45 : decode cX5_said 45 = .ok (.iload_n 1, 1) := by decide +kernel
theorem dX5_said_46 : decode cX5_said 46 = .ok (.iconst 1, 1) := by decide +kernel
theorem dX5_said_47 : decode cX5_said 47 = .ok (.if_icmp .ne 10, 3) := by decide +kernel
theorem dX5_said_50 : decode cX5_said 50 = .ok (.aload_n 0, 1) := by decide +kernel
theorem dX5_said_51 : decode cX5_said 51 = .ok (.getfield 145, 3) := by decide +kernel
theorem dX5_said_54 : decode cX5_said 54 = .ok (.goto 7, 3) := by decide +kernel
theorem dX5_said_57 : decode cX5_said 57 = .ok (.aload_n 0, 1) := by decide +kernel
theorem dX5_said_58 : decode cX5_said 58 = .ok (.getfield 151, 3) := by decide +kernel
theorem dX5_said_61 : decode cX5_said 61 = .ok (.ireturn, 1) := by decide +kernel
set_option maxRecDepth 20000 in
theorem ggX5_done_X5_refusal : GoodIn wsX5_done wsX5_refusal := goodIn_r _ [7, 8, 9, 10, 11, 6, 12, 13, 14, 15, 16, 17, 18, 19, 20, 2, 1, 21, 22, 23, 24, 25, 26, 27, 28, 29, 30, 31, 32, 33, 34, 35, 36, 37, 38, 39, 40, 41, 42, 43, 44, 45, 46, 47, 48, 49, 50, 51, 52, 53, 54, 55, 56, 57, 58, 59, 60, 61, 62, 63, 64, 65, 66, 67, 68, 69, 70, 71, 72, 73, 74, 75, 76, 77, 78, 79, 80, 81, 82, 83, 84, 89, 90, 91, 92, 93, 94, 95, 96, 97, 98, 99, 100, 101, 102, 103, 104, 105, 106, 107, 108, 109, 110, 111, 112, 113, 114, 115, 116, 117, 118, 119, 120, 121] (by decide +kernel) (by decide +kernel)
set_option maxRecDepth 20000 in
theorem gX5_done_X5_refusal : GoodIn wsX5_done (wsV RX5 190 RX5 yX5_refusal wsX5_refusal) := goodIn_app (goodIn_of _ (by decide +kernel)) ggX5_done_X5_refusal
set_option maxRecDepth 20000 in
theorem ggX5_done_X5_back : GoodIn wsX5_done wsX5_back := goodIn_r _ [88, 14, 13, 15, 16, 89, 90, 91, 92, 93, 94, 95, 96, 97, 98, 99, 100, 101, 102, 103, 104, 105, 106, 107, 108, 109, 110, 111, 112, 113, 114, 115, 116, 117, 118, 119, 120, 121] (by decide +kernel) (by decide +kernel)
set_option maxRecDepth 20000 in
theorem gX5_done_X5_back : GoodIn wsX5_done (wsV RX5 193 RX5 yX5_back wsX5_back) := goodIn_app (goodIn_of _ (by decide +kernel)) ggX5_done_X5_back
theorem dX5_done_0 : decode cX5_done 0 = .ok (.aload_n 0, 1) := by decide +kernel
theorem dX5_done_1 : decode cX5_done 1 = .ok (.invokevirtual 190, 3) := by decide +kernel
theorem dX5_done_4 : decode cX5_done 4 = .ok (.istore_n 1, 1) := by decide +kernel
theorem dX5_done_5 : decode cX5_done 5 = .ok (.iload_n 1, 1) := by decide +kernel
theorem dX5_done_6 : decode cX5_done 6 = .ok (.bipush (-6), 2) := by decide +kernel
theorem dX5_done_8 : decode cX5_done 8 = .ok (.if_icmp .eq 9, 3) := by decide +kernel
theorem dX5_done_11 : decode cX5_done 11 = .ok (.aload_n 0, 1) := by decide +kernel
theorem dX5_done_12 : decode cX5_done 12 = .ok (.iload_n 1, 1) := by decide +kernel
theorem dX5_done_13 : decode cX5_done 13 = .ok (.invokevirtual 193, 3) := by decide +kernel
theorem dX5_done_16 : decode cX5_done 16 = .ok (.ireturn, 1) := by decide +kernel
theorem dX5_done_17 : decode cX5_done 17 = .ok (.aload_n 0, 1) := by decide +kernel
theorem dX5_done_18 : decode cX5_done 18 = .ok (.iconst 0, 1) := by decide +kernel
theorem dX5_done_19 : decode cX5_done 19 = .ok (.putfield 106, 3) := by decide +kernel
theorem dX5_done_22 : decode cX5_done 22 = .ok (.aload_n 0, 1) := by decide +kernel
theorem dX5_done_23 : decode cX5_done 23 = .ok (.getfield 110, 3) := by decide +kernel
theorem dX5_done_26 : decode cX5_done 26 = .ok (.ireturn, 1) := by decide +kernel
set_option maxRecDepth 20000 in
theorem ggX5_scales_X5_in : GoodIn wsX5_scales wsX5_in := goodIn_r _ [7] (by decide +kernel) (by decide +kernel)
set_option maxRecDepth 20000 in
theorem gX5_scales_X5_in : GoodIn wsX5_scales (va_wsS RX5 71 yX5_in wsX5_in) := goodIn_app (goodIn_of _ (by decide +kernel)) ggX5_scales_X5_in
theorem dX5_scales_0 : decode cX5_scales 0 = .ok (.iload_n 1, 1) := by decide +kernel
theorem dX5_scales_1 : decode cX5_scales 1 = .ok (.i2l, 1) := by decide +kernel
theorem dX5_scales_2 : decode cX5_scales 2 = .ok (.lconst 0, 1) := by decide +kernel
theorem dX5_scales_3 : decode cX5_scales 3 = .ok (.ldc2_w 100, 3) := by decide +kernel
theorem dX5_scales_6 : decode cX5_scales 6 = .ok (.invokestatic 71, 3) := by decide +kernel
theorem dX5_scales_9 : decode cX5_scales 9 = .ok (.ifCond .ne 6, 3) := by decide +kernel
theorem dX5_scales_12 : decode cX5_scales 12 = .ok (.bipush (-2), 2) := by decide +kernel
theorem dX5_scales_14 : decode cX5_scales 14 = .ok (.ireturn, 1) := by decide +kernel
theorem dX5_scales_15 : decode cX5_scales 15 = .ok (.iconst 0, 1) := by decide +kernel
theorem dX5_scales_16 : decode cX5_scales 16 = .ok (.istore_n 2, 1) := by decide +kernel
theorem dX5_scales_17 : decode cX5_scales 17 = .ok (.iconst 0, 1) := by decide +kernel
theorem dX5_scales_18 : decode cX5_scales 18 = .ok (.istore_n 3, 1) := by decide +kernel
theorem dX5_scales_19 : decode cX5_scales 19 = .ok (.iload_n 3, 1) := by decide +kernel
theorem dX5_scales_20 : decode cX5_scales 20 = .ok (.bipush 12, 2) := by decide +kernel
theorem dX5_scales_22 : decode cX5_scales 22 = .ok (.if_icmp .ge 92, 3) := by decide +kernel
theorem dX5_scales_25 : decode cX5_scales 25 = .ok (.iconst 0, 1) := by decide +kernel
theorem dX5_scales_26 : decode cX5_scales 26 = .ok (.istore 4, 2) := by decide +kernel
theorem dX5_scales_28 : decode cX5_scales 28 = .ok (.iconst 0, 1) := by decide +kernel
theorem dX5_scales_29 : decode cX5_scales 29 = .ok (.istore 5, 2) := by decide +kernel
theorem dX5_scales_31 : decode cX5_scales 31 = .ok (.iload 5, 2) := by decide +kernel
theorem dX5_scales_33 : decode cX5_scales 33 = .ok (.bipush 12, 2) := by decide +kernel
theorem dX5_scales_35 : decode cX5_scales 35 = .ok (.if_icmp .ge 68, 3) := by decide +kernel
theorem dX5_scales_38 : decode cX5_scales 38 = .ok (.iload_n 1, 1) := by decide +kernel
theorem dX5_scales_39 : decode cX5_scales 39 = .ok (.iload 5, 2) := by decide +kernel
theorem dX5_scales_41 : decode cX5_scales 41 = .ok (.ishr, 1) := by decide +kernel
theorem dX5_scales_42 : decode cX5_scales 42 = .ok (.iconst 1, 1) := by decide +kernel
theorem dX5_scales_43 : decode cX5_scales 43 = .ok (.iand, 1) := by decide +kernel
theorem dX5_scales_44 : decode cX5_scales 44 = .ok (.iconst 1, 1) := by decide +kernel
theorem dX5_scales_45 : decode cX5_scales 45 = .ok (.if_icmp .ne 18, 3) := by decide +kernel
theorem dX5_scales_48 : decode cX5_scales 48 = .ok (.aload_n 0, 1) := by decide +kernel
theorem dX5_scales_49 : decode cX5_scales 49 = .ok (.getfield 16, 3) := by decide +kernel
theorem dX5_scales_52 : decode cX5_scales 52 = .ok (.iload 5, 2) := by decide +kernel
theorem dX5_scales_54 : decode cX5_scales 54 = .ok (.iaload, 1) := by decide +kernel
theorem dX5_scales_55 : decode cX5_scales 55 = .ok (.iload_n 3, 1) := by decide +kernel
theorem dX5_scales_56 : decode cX5_scales 56 = .ok (.if_icmp .ne 7, 3) := by decide +kernel
theorem dX5_scales_59 : decode cX5_scales 59 = .ok (.iconst 1, 1) := by decide +kernel
theorem dX5_scales_60 : decode cX5_scales 60 = .ok (.goto 4, 3) := by decide +kernel
theorem dX5_scales_63 : decode cX5_scales 63 = .ok (.iconst 0, 1) := by decide +kernel
theorem dX5_scales_64 : decode cX5_scales 64 = .ok (.istore 6, 2) := by decide +kernel
theorem dX5_scales_66 : decode cX5_scales 66 = .ok (.iload 6, 2) := by decide +kernel
theorem dX5_scales_68 : decode cX5_scales 68 = .ok (.ifCond .eq 25, 3) := by decide +kernel
theorem dX5_scales_71 : decode cX5_scales 71 = .ok (.aload_n 0, 1) := by decide +kernel
theorem dX5_scales_72 : decode cX5_scales 72 = .ok (.getfield 7, 3) := by decide +kernel
theorem dX5_scales_75 : decode cX5_scales 75 = .ok (.iload 5, 2) := by decide +kernel
theorem dX5_scales_77 : decode cX5_scales 77 = .ok (.iaload, 1) := by decide +kernel
theorem dX5_scales_78 : decode cX5_scales 78 = .ok (.iload 4, 2) := by decide +kernel
theorem dX5_scales_80 : decode cX5_scales 80 = .ok (.if_icmp .le 13, 3) := by decide +kernel
theorem dX5_scales_83 : decode cX5_scales 83 = .ok (.aload_n 0, 1) := by decide +kernel
theorem dX5_scales_84 : decode cX5_scales 84 = .ok (.getfield 7, 3) := by decide +kernel
theorem dX5_scales_87 : decode cX5_scales 87 = .ok (.iload 5, 2) := by decide +kernel
theorem dX5_scales_89 : decode cX5_scales 89 = .ok (.iaload, 1) := by decide +kernel
theorem dX5_scales_90 : decode cX5_scales 90 = .ok (.goto 5, 3) := by decide +kernel
theorem dX5_scales_93 : decode cX5_scales 93 = .ok (.iload 4, 2) := by decide +kernel
theorem dX5_scales_95 : decode cX5_scales 95 = .ok (.istore 4, 2) := by decide +kernel
theorem dX5_scales_97 : decode cX5_scales 97 = .ok (.iinc 5 1, 3) := by decide +kernel
theorem dX5_scales_100 : decode cX5_scales 100 = .ok (.goto (-69), 3) := by decide +kernel
theorem dX5_scales_103 : decode cX5_scales 103 = .ok (.iload_n 2, 1) := by decide +kernel
theorem dX5_scales_104 : decode cX5_scales 104 = .ok (.iload 4, 2) := by decide +kernel
theorem dX5_scales_106 : decode cX5_scales 106 = .ok (.iadd, 1) := by decide +kernel
theorem dX5_scales_107 : decode cX5_scales 107 = .ok (.istore_n 2, 1) := by decide +kernel
theorem dX5_scales_108 : decode cX5_scales 108 = .ok (.iinc 3 1, 3) := by decide +kernel
theorem dX5_scales_111 : decode cX5_scales 111 = .ok (.goto (-92), 3) := by decide +kernel
theorem dX5_scales_114 : decode cX5_scales 114 = .ok (.iload_n 2, 1) := by decide +kernel
theorem dX5_scales_115 : decode cX5_scales 115 = .ok (.ireturn, 1) := by decide +kernel
theorem dX5_manyOf_0 : decode cX5_manyOf 0 = .ok (.iconst 0, 1) := by decide +kernel
theorem dX5_manyOf_1 : decode cX5_manyOf 1 = .ok (.istore_n 3, 1) := by decide +kernel
theorem dX5_manyOf_2 : decode cX5_manyOf 2 = .ok (.iconst 0, 1) := by decide +kernel
theorem dX5_manyOf_3 : decode cX5_manyOf 3 = .ok (.istore 4, 2) := by decide +kernel
theorem dX5_manyOf_5 : decode cX5_manyOf 5 = .ok (.iload 4, 2) := by decide +kernel
theorem dX5_manyOf_7 : decode cX5_manyOf 7 = .ok (.bipush 12, 2) := by decide +kernel
theorem dX5_manyOf_9 : decode cX5_manyOf 9 = .ok (.if_icmp .ge 38, 3) := by decide +kernel
theorem dX5_manyOf_12 : decode cX5_manyOf 12 = .ok (.iload_n 3, 1) := by decide +kernel
theorem dX5_manyOf_13 : decode cX5_manyOf 13 = .ok (.iload_n 1, 1) := by decide +kernel
theorem dX5_manyOf_14 : decode cX5_manyOf 14 = .ok (.iload 4, 2) := by decide +kernel
theorem dX5_manyOf_16 : decode cX5_manyOf 16 = .ok (.ishr, 1) := by decide +kernel
theorem dX5_manyOf_17 : decode cX5_manyOf 17 = .ok (.iconst 1, 1) := by decide +kernel
theorem dX5_manyOf_18 : decode cX5_manyOf 18 = .ok (.iand, 1) := by decide +kernel
theorem dX5_manyOf_19 : decode cX5_manyOf 19 = .ok (.iconst 1, 1) := by decide +kernel
theorem dX5_manyOf_20 : decode cX5_manyOf 20 = .ok (.if_icmp .ne 18, 3) := by decide +kernel
theorem dX5_manyOf_23 : decode cX5_manyOf 23 = .ok (.aload_n 0, 1) := by decide +kernel
theorem dX5_manyOf_24 : decode cX5_manyOf 24 = .ok (.getfield 13, 3) := by decide +kernel
theorem dX5_manyOf_27 : decode cX5_manyOf 27 = .ok (.iload 4, 2) := by decide +kernel
theorem dX5_manyOf_29 : decode cX5_manyOf 29 = .ok (.iaload, 1) := by decide +kernel
theorem dX5_manyOf_30 : decode cX5_manyOf 30 = .ok (.iload_n 2, 1) := by decide +kernel
theorem dX5_manyOf_31 : decode cX5_manyOf 31 = .ok (.if_icmp .ne 7, 3) := by decide +kernel
theorem dX5_manyOf_34 : decode cX5_manyOf 34 = .ok (.iconst 1, 1) := by decide +kernel
theorem dX5_manyOf_35 : decode cX5_manyOf 35 = .ok (.goto 4, 3) := by decide +kernel
theorem dX5_manyOf_38 : decode cX5_manyOf 38 = .ok (.iconst 0, 1) := by decide +kernel
theorem dX5_manyOf_39 : decode cX5_manyOf 39 = .ok (.iadd, 1) := by decide +kernel
theorem dX5_manyOf_40 : decode cX5_manyOf 40 = .ok (.istore_n 3, 1) := by decide +kernel
theorem dX5_manyOf_41 : decode cX5_manyOf 41 = .ok (.iinc 4 1, 3) := by decide +kernel
theorem dX5_manyOf_44 : decode cX5_manyOf 44 = .ok (.goto (-39), 3) := by decide +kernel
theorem dX5_manyOf_47 : decode cX5_manyOf 47 = .ok (.iload_n 3, 1) := by decide +kernel
theorem dX5_manyOf_48 : decode cX5_manyOf 48 = .ok (.ireturn, 1) := by decide +kernel
theorem dX5_times_0 : decode cX5_times 0 = .ok (.lconst 1, 1) := by decide +kernel
theorem dX5_times_1 : decode cX5_times 1 = .ok (.lstore_n 3, 1) := by decide +kernel
theorem dX5_times_2 : decode cX5_times 2 = .ok (.iconst 0, 1) := by decide +kernel
theorem dX5_times_3 : decode cX5_times 3 = .ok (.istore 5, 2) := by decide +kernel
theorem dX5_times_5 : decode cX5_times 5 = .ok (.iload 5, 2) := by decide +kernel
theorem dX5_times_7 : decode cX5_times 7 = .ok (.iload_n 2, 1) := by decide +kernel
theorem dX5_times_8 : decode cX5_times 8 = .ok (.if_icmp .ge 13, 3) := by decide +kernel
theorem dX5_times_11 : decode cX5_times 11 = .ok (.lload_n 3, 1) := by decide +kernel
theorem dX5_times_12 : decode cX5_times 12 = .ok (.lload_n 0, 1) := by decide +kernel
theorem dX5_times_13 : decode cX5_times 13 = .ok (.lmul, 1) := by decide +kernel
theorem dX5_times_14 : decode cX5_times 14 = .ok (.lstore_n 3, 1) := by decide +kernel
theorem dX5_times_15 : decode cX5_times 15 = .ok (.iinc 5 1, 3) := by decide +kernel
theorem dX5_times_18 : decode cX5_times 18 = .ok (.goto (-13), 3) := by decide +kernel
theorem dX5_times_21 : decode cX5_times 21 = .ok (.lload_n 3, 1) := by decide +kernel
theorem dX5_times_22 : decode cX5_times 22 = .ok (.lreturn, 1) := by decide +kernel
set_option maxRecDepth 20000 in
theorem ggX5_says_X5_isSpeaker : GoodIn wsX5_says wsX5_isSpeaker := goodIn_r _ [8, 9, 10, 11, 7, 12] (by decide +kernel) (by decide +kernel)
set_option maxRecDepth 20000 in
theorem gX5_says_X5_isSpeaker : GoodIn wsX5_says (va_wsS RX5 95 yX5_isSpeaker wsX5_isSpeaker) := goodIn_app (goodIn_of _ (by decide +kernel)) ggX5_says_X5_isSpeaker
set_option maxRecDepth 20000 in
theorem ggX5_says_X5_in : GoodIn wsX5_says wsX5_in := goodIn_r _ [12] (by decide +kernel) (by decide +kernel)
set_option maxRecDepth 20000 in
theorem gX5_says_X5_in : GoodIn wsX5_says (va_wsS RX5 71 yX5_in wsX5_in) := goodIn_app (goodIn_of _ (by decide +kernel)) ggX5_says_X5_in
set_option maxRecDepth 20000 in
theorem ggX5_says_X5_manyOf : GoodIn wsX5_says wsX5_manyOf := goodIn_r _ [16, 17, 21, 22, 23, 24, 25, 26, 27, 28, 29, 30, 31, 32, 33, 34, 35, 36, 37, 38, 39, 40, 41, 42, 43, 44, 45, 46, 47, 48, 49, 50, 51, 52, 53] (by decide +kernel) (by decide +kernel)
set_option maxRecDepth 20000 in
theorem gX5_says_X5_manyOf : GoodIn wsX5_says (wsV RX5 202 RX5 yX5_manyOf wsX5_manyOf) := goodIn_app (goodIn_of _ (by decide +kernel)) ggX5_says_X5_manyOf
set_option maxRecDepth 20000 in
theorem ggX5_says_X5_times : GoodIn wsX5_says wsX5_times := goodIn_r _ [20] (by decide +kernel) (by decide +kernel)
set_option maxRecDepth 20000 in
theorem gX5_says_X5_times : GoodIn wsX5_says (va_wsS RX5 205 yX5_times wsX5_times) := goodIn_app (goodIn_of _ (by decide +kernel)) ggX5_says_X5_times
theorem dX5_says_0 : decode cX5_says 0 = .ok (.iload_n 1, 1) := by decide +kernel
theorem dX5_says_1 : decode cX5_says 1 = .ok (.invokestatic 95, 3) := by decide +kernel
theorem dX5_says_4 : decode cX5_says 4 = .ok (.ifCond .ne 7, 3) := by decide +kernel
theorem dX5_says_7 : decode cX5_says 7 = .ok (.ldc2_w 196, 3) := by decide +kernel
theorem dX5_says_10 : decode cX5_says 10 = .ok (.lreturn, 1) := by decide +kernel
theorem dX5_says_11 : decode cX5_says 11 = .ok (.iload_n 2, 1) := by decide +kernel
theorem dX5_says_12 : decode cX5_says 12 = .ok (.i2l, 1) := by decide +kernel
theorem dX5_says_13 : decode cX5_says 13 = .ok (.lconst 1, 1) := by decide +kernel
theorem dX5_says_14 : decode cX5_says 14 = .ok (.ldc2_w 198, 3) := by decide +kernel
theorem dX5_says_17 : decode cX5_says 17 = .ok (.invokestatic 71, 3) := by decide +kernel
theorem dX5_says_20 : decode cX5_says 20 = .ok (.ifCond .ne 7, 3) := by decide +kernel
theorem dX5_says_23 : decode cX5_says 23 = .ok (.ldc2_w 200, 3) := by decide +kernel
theorem dX5_says_26 : decode cX5_says 26 = .ok (.lreturn, 1) := by decide +kernel
theorem dX5_says_27 : decode cX5_says 27 = .ok (.aload_n 0, 1) := by decide +kernel
theorem dX5_says_28 : decode cX5_says 28 = .ok (.aload_n 0, 1) := by decide +kernel
theorem dX5_says_29 : decode cX5_says 29 = .ok (.getfield 22, 3) := by decide +kernel
theorem dX5_says_32 : decode cX5_says 32 = .ok (.iload_n 1, 1) := by decide +kernel
theorem dX5_says_33 : decode cX5_says 33 = .ok (.iaload, 1) := by decide +kernel
theorem dX5_says_34 : decode cX5_says 34 = .ok (.iconst 0, 1) := by decide +kernel
theorem dX5_says_35 : decode cX5_says 35 = .ok (.invokevirtual 202, 3) := by decide +kernel
theorem dX5_says_38 : decode cX5_says 38 = .ok (.i2l, 1) := by decide +kernel
theorem dX5_says_39 : decode cX5_says 39 = .ok (.lstore_n 3, 1) := by decide +kernel
theorem dX5_says_40 : decode cX5_says 40 = .ok (.aload_n 0, 1) := by decide +kernel
theorem dX5_says_41 : decode cX5_says 41 = .ok (.aload_n 0, 1) := by decide +kernel
theorem dX5_says_42 : decode cX5_says 42 = .ok (.getfield 22, 3) := by decide +kernel
theorem dX5_says_45 : decode cX5_says 45 = .ok (.iload_n 1, 1) := by decide +kernel
theorem dX5_says_46 : decode cX5_says 46 = .ok (.iaload, 1) := by decide +kernel
theorem dX5_says_47 : decode cX5_says 47 = .ok (.iconst 1, 1) := by decide +kernel
theorem dX5_says_48 : decode cX5_says 48 = .ok (.invokevirtual 202, 3) := by decide +kernel
theorem dX5_says_51 : decode cX5_says 51 = .ok (.i2l, 1) := by decide +kernel
theorem dX5_says_52 : decode cX5_says 52 = .ok (.lstore 5, 2) := by decide +kernel
theorem dX5_says_54 : decode cX5_says 54 = .ok (.aload_n 0, 1) := by decide +kernel
theorem dX5_says_55 : decode cX5_says 55 = .ok (.aload_n 0, 1) := by decide +kernel
theorem dX5_says_56 : decode cX5_says 56 = .ok (.getfield 22, 3) := by decide +kernel
theorem dX5_says_59 : decode cX5_says 59 = .ok (.iload_n 1, 1) := by decide +kernel
theorem dX5_says_60 : decode cX5_says 60 = .ok (.iaload, 1) := by decide +kernel
theorem dX5_says_61 : decode cX5_says 61 = .ok (.iconst 2, 1) := by decide +kernel
theorem dX5_says_62 : decode cX5_says 62 = .ok (.invokevirtual 202, 3) := by decide +kernel
theorem dX5_says_65 : decode cX5_says 65 = .ok (.i2l, 1) := by decide +kernel
theorem dX5_says_66 : decode cX5_says 66 = .ok (.lstore 7, 2) := by decide +kernel
theorem dX5_says_68 : decode cX5_says 68 = .ok (.iload_n 2, 1) := by decide +kernel
theorem dX5_says_69 : decode cX5_says 69 = .ok (.iconst 2, 1) := by decide +kernel
theorem dX5_says_70 : decode cX5_says 70 = .ok (.if_icmp .ge 7, 3) := by decide +kernel
theorem dX5_says_73 : decode cX5_says 73 = .ok (.lconst 0, 1) := by decide +kernel
theorem dX5_says_74 : decode cX5_says 74 = .ok (.goto 16, 3) := by decide +kernel
theorem dX5_says_77 : decode cX5_says 77 = .ok (.lload 7, 2) := by decide +kernel
theorem dX5_says_79 : decode cX5_says 79 = .ok (.iload_n 2, 1) := by decide +kernel
theorem dX5_says_80 : decode cX5_says 80 = .ok (.iconst 2, 1) := by decide +kernel
theorem dX5_says_81 : decode cX5_says 81 = .ok (.isub, 1) := by decide +kernel
theorem dX5_says_82 : decode cX5_says 82 = .ok (.invokestatic 205, 3) := by decide +kernel
theorem dX5_says_85 : decode cX5_says 85 = .ok (.lload_n 3, 1) := by decide +kernel
theorem dX5_says_86 : decode cX5_says 86 = .ok (.lmul, 1) := by decide +kernel
theorem dX5_says_87 : decode cX5_says 87 = .ok (.lload 5, 2) := by decide +kernel
theorem dX5_says_89 : decode cX5_says 89 = .ok (.lmul, 1) := by decide +kernel
theorem dX5_says_90 : decode cX5_says 90 = .ok (.lstore 9, 2) := by decide +kernel
theorem dX5_says_92 : decode cX5_says 92 = .ok (.iload_n 2, 1) := by decide +kernel
theorem dX5_says_93 : decode cX5_says 93 = .ok (.iconst 3, 1) := by decide +kernel
theorem dX5_says_94 : decode cX5_says 94 = .ok (.if_icmp .ge 7, 3) := by decide +kernel
theorem dX5_says_97 : decode cX5_says 97 = .ok (.lconst 0, 1) := by decide +kernel
theorem dX5_says_98 : decode cX5_says 98 = .ok (.goto 23, 3) := by decide +kernel
theorem dX5_says_101 : decode cX5_says 101 = .ok (.iload_n 2, 1) := by decide +kernel
theorem dX5_says_102 : decode cX5_says 102 = .ok (.iconst 2, 1) := by decide +kernel
theorem dX5_says_103 : decode cX5_says 103 = .ok (.isub, 1) := by decide +kernel
theorem dX5_says_104 : decode cX5_says 104 = .ok (.i2l, 1) := by decide +kernel
theorem dX5_says_105 : decode cX5_says 105 = .ok (.lload 7, 2) := by decide +kernel
theorem dX5_says_107 : decode cX5_says 107 = .ok (.iload_n 2, 1) := by decide +kernel
theorem dX5_says_108 : decode cX5_says 108 = .ok (.iconst 3, 1) := by decide +kernel
theorem dX5_says_109 : decode cX5_says 109 = .ok (.isub, 1) := by decide +kernel
theorem dX5_says_110 : decode cX5_says 110 = .ok (.invokestatic 205, 3) := by decide +kernel
theorem dX5_says_113 : decode cX5_says 113 = .ok (.lmul, 1) := by decide +kernel
theorem dX5_says_114 : decode cX5_says 114 = .ok (.lload_n 3, 1) := by decide +kernel
theorem dX5_says_115 : decode cX5_says 115 = .ok (.lmul, 1) := by decide +kernel
theorem dX5_says_116 : decode cX5_says 116 = .ok (.lload 5, 2) := by decide +kernel
theorem dX5_says_118 : decode cX5_says 118 = .ok (.lmul, 1) := by decide +kernel
theorem dX5_says_119 : decode cX5_says 119 = .ok (.lload_n 3, 1) := by decide +kernel
theorem dX5_says_120 : decode cX5_says 120 = .ok (.lmul, 1) := by decide +kernel
theorem dX5_says_121 : decode cX5_says 121 = .ok (.lstore 11, 2) := by decide +kernel
theorem dX5_says_123 : decode cX5_says 123 = .ok (.lload 9, 2) := by decide +kernel
theorem dX5_says_125 : decode cX5_says 125 = .ok (.lload 11, 2) := by decide +kernel
theorem dX5_says_127 : decode cX5_says 127 = .ok (.ladd, 1) := by decide +kernel
theorem dX5_says_128 : decode cX5_says 128 = .ok (.lreturn, 1) := by decide +kernel
set_option maxRecDepth 20000 in
theorem ggX5_isSentence_X5_manyOf : GoodIn wsX5_isSentence wsX5_manyOf := goodIn_r _ [5, 6, 10, 11, 12, 13, 14, 15, 16, 17, 18, 19, 20, 21, 22, 23, 24, 25, 26, 27, 28, 29, 30, 31, 32, 33, 34, 35, 36, 37, 38, 39, 40, 41, 42] (by decide +kernel) (by decide +kernel)
set_option maxRecDepth 20000 in
theorem gX5_isSentence_X5_manyOf : GoodIn wsX5_isSentence (wsV RX5 202 RX5 yX5_manyOf wsX5_manyOf) := goodIn_app (goodIn_of _ (by decide +kernel)) ggX5_isSentence_X5_manyOf
set_option maxRecDepth 20000 in
theorem ggX5_isSentence_X5_ones : GoodIn wsX5_isSentence wsX5_ones := goodIn_r _ [9] (by decide +kernel) (by decide +kernel)
set_option maxRecDepth 20000 in
theorem gX5_isSentence_X5_ones : GoodIn wsX5_isSentence (va_wsS RX5 89 yX5_ones wsX5_ones) := goodIn_app (goodIn_of _ (by decide +kernel)) ggX5_isSentence_X5_ones
theorem dX5_isSentence_0 : decode cX5_isSentence 0 = .ok (.aload_n 0, 1) := by decide +kernel
theorem dX5_isSentence_1 : decode cX5_isSentence 1 = .ok (.iload_n 1, 1) := by decide +kernel
theorem dX5_isSentence_2 : decode cX5_isSentence 2 = .ok (.iconst 0, 1) := by decide +kernel
theorem dX5_isSentence_3 : decode cX5_isSentence 3 = .ok (.invokevirtual 202, 3) := by decide +kernel
theorem dX5_isSentence_6 : decode cX5_isSentence 6 = .ok (.istore_n 3, 1) := by decide +kernel
theorem dX5_isSentence_7 : decode cX5_isSentence 7 = .ok (.iload_n 1, 1) := by decide +kernel
theorem dX5_isSentence_8 : decode cX5_isSentence 8 = .ok (.invokestatic 89, 3) := by decide +kernel
theorem dX5_isSentence_11 : decode cX5_isSentence 11 = .ok (.iload_n 2, 1) := by decide +kernel
theorem dX5_isSentence_12 : decode cX5_isSentence 12 = .ok (.if_icmp .ne 27, 3) := by decide +kernel
theorem dX5_isSentence_15 : decode cX5_isSentence 15 = .ok (.aload_n 0, 1) := by decide +kernel
theorem dX5_isSentence_16 : decode cX5_isSentence 16 = .ok (.iload_n 1, 1) := by decide +kernel
theorem dX5_isSentence_17 : decode cX5_isSentence 17 = .ok (.iconst 1, 1) := by decide +kernel
theorem dX5_isSentence_18 : decode cX5_isSentence 18 = .ok (.invokevirtual 202, 3) := by decide +kernel
theorem dX5_isSentence_21 : decode cX5_isSentence 21 = .ok (.iconst 1, 1) := by decide +kernel
theorem dX5_isSentence_22 : decode cX5_isSentence 22 = .ok (.if_icmp .ne 17, 3) := by decide +kernel
theorem dX5_isSentence_25 : decode cX5_isSentence 25 = .ok (.iload_n 3, 1) := by decide +kernel
theorem dX5_isSentence_26 : decode cX5_isSentence 26 = .ok (.iconst 1, 1) := by decide +kernel
theorem dX5_isSentence_27 : decode cX5_isSentence 27 = .ok (.if_icmp .eq 8, 3) := by decide +kernel
theorem dX5_isSentence_30 : decode cX5_isSentence 30 = .ok (.iload_n 3, 1) := by decide +kernel
theorem dX5_isSentence_31 : decode cX5_isSentence 31 = .ok (.iconst 2, 1) := by decide +kernel
theorem dX5_isSentence_32 : decode cX5_isSentence 32 = .ok (.if_icmp .ne 7, 3) := by decide +kernel
theorem dX5_isSentence_35 : decode cX5_isSentence 35 = .ok (.iconst 1, 1) := by decide +kernel
theorem dX5_isSentence_36 : decode cX5_isSentence 36 = .ok (.goto 4, 3) := by decide +kernel
theorem dX5_isSentence_39 : decode cX5_isSentence 39 = .ok (.iconst 0, 1) := by decide +kernel
theorem dX5_isSentence_40 : decode cX5_isSentence 40 = .ok (.ireturn, 1) := by decide +kernel
theorem dX5_costOf_0 : decode cX5_costOf 0 = .ok (.iconst 0, 1) := by decide +kernel
theorem dX5_costOf_1 : decode cX5_costOf 1 = .ok (.istore_n 2, 1) := by decide +kernel
theorem dX5_costOf_2 : decode cX5_costOf 2 = .ok (.iconst 0, 1) := by decide +kernel
theorem dX5_costOf_3 : decode cX5_costOf 3 = .ok (.istore_n 3, 1) := by decide +kernel
theorem dX5_costOf_4 : decode cX5_costOf 4 = .ok (.iload_n 3, 1) := by decide +kernel
theorem dX5_costOf_5 : decode cX5_costOf 5 = .ok (.bipush 12, 2) := by decide +kernel
theorem dX5_costOf_7 : decode cX5_costOf 7 = .ok (.if_icmp .ge 31, 3) := by decide +kernel
theorem dX5_costOf_10 : decode cX5_costOf 10 = .ok (.iload_n 2, 1) := by decide +kernel
theorem dX5_costOf_11 : decode cX5_costOf 11 = .ok (.iload_n 1, 1) := by decide +kernel
theorem dX5_costOf_12 : decode cX5_costOf 12 = .ok (.iload_n 3, 1) := by decide +kernel
theorem dX5_costOf_13 : decode cX5_costOf 13 = .ok (.ishr, 1) := by decide +kernel
theorem dX5_costOf_14 : decode cX5_costOf 14 = .ok (.iconst 1, 1) := by decide +kernel
theorem dX5_costOf_15 : decode cX5_costOf 15 = .ok (.iand, 1) := by decide +kernel
theorem dX5_costOf_16 : decode cX5_costOf 16 = .ok (.iconst 1, 1) := by decide +kernel
theorem dX5_costOf_17 : decode cX5_costOf 17 = .ok (.if_icmp .ne 12, 3) := by decide +kernel
theorem dX5_costOf_20 : decode cX5_costOf 20 = .ok (.aload_n 0, 1) := by decide +kernel
theorem dX5_costOf_21 : decode cX5_costOf 21 = .ok (.getfield 7, 3) := by decide +kernel
theorem dX5_costOf_24 : decode cX5_costOf 24 = .ok (.iload_n 3, 1) := by decide +kernel
theorem dX5_costOf_25 : decode cX5_costOf 25 = .ok (.iaload, 1) := by decide +kernel
theorem dX5_costOf_26 : decode cX5_costOf 26 = .ok (.goto 4, 3) := by decide +kernel
theorem dX5_costOf_29 : decode cX5_costOf 29 = .ok (.iconst 0, 1) := by decide +kernel
theorem dX5_costOf_30 : decode cX5_costOf 30 = .ok (.iadd, 1) := by decide +kernel
theorem dX5_costOf_31 : decode cX5_costOf 31 = .ok (.istore_n 2, 1) := by decide +kernel
theorem dX5_costOf_32 : decode cX5_costOf 32 = .ok (.iinc 3 1, 3) := by decide +kernel
theorem dX5_costOf_35 : decode cX5_costOf 35 = .ok (.goto (-31), 3) := by decide +kernel
theorem dX5_costOf_38 : decode cX5_costOf 38 = .ok (.iload_n 2, 1) := by decide +kernel
theorem dX5_costOf_39 : decode cX5_costOf 39 = .ok (.ireturn, 1) := by decide +kernel
set_option maxRecDepth 20000 in
theorem ggX5_cheap_X5_isSpeaker : GoodIn wsX5_cheap wsX5_isSpeaker := goodIn_r _ [6, 7, 8, 9, 5, 10] (by decide +kernel) (by decide +kernel)
set_option maxRecDepth 20000 in
theorem gX5_cheap_X5_isSpeaker : GoodIn wsX5_cheap (va_wsS RX5 95 yX5_isSpeaker wsX5_isSpeaker) := goodIn_app (goodIn_of _ (by decide +kernel)) ggX5_cheap_X5_isSpeaker
set_option maxRecDepth 20000 in
theorem ggX5_cheap_X5_in : GoodIn wsX5_cheap wsX5_in := goodIn_r _ [10] (by decide +kernel) (by decide +kernel)
set_option maxRecDepth 20000 in
theorem gX5_cheap_X5_in : GoodIn wsX5_cheap (va_wsS RX5 71 yX5_in wsX5_in) := goodIn_app (goodIn_of _ (by decide +kernel)) ggX5_cheap_X5_in
set_option maxRecDepth 20000 in
theorem ggX5_cheap_X5_isSentence : GoodIn wsX5_cheap wsX5_isSentence := goodIn_r _ [14, 15, 16, 17, 5, 18, 19, 20, 21, 22, 28, 29, 30, 31, 32, 33, 34, 35, 36, 37, 38, 39, 40, 41, 42, 43, 44, 45, 46, 47, 48, 49, 50, 51, 52, 53, 54, 55, 56, 57, 58, 59, 60] (by decide +kernel) (by decide +kernel)
set_option maxRecDepth 20000 in
theorem gX5_cheap_X5_isSentence : GoodIn wsX5_cheap (wsV RX5 209 RX5 yX5_isSentence wsX5_isSentence) := goodIn_app (goodIn_of _ (by decide +kernel)) ggX5_cheap_X5_isSentence
set_option maxRecDepth 20000 in
theorem ggX5_cheap_X5_costOf : GoodIn wsX5_cheap wsX5_costOf := goodIn_r _ [26, 27, 28, 29, 30, 31, 32, 33, 34, 35, 36, 37, 38, 39, 40, 41, 42, 43, 44, 45, 46, 47, 48, 49, 50, 51, 52, 53, 54, 55, 56, 57, 58, 59, 60] (by decide +kernel) (by decide +kernel)
set_option maxRecDepth 20000 in
theorem gX5_cheap_X5_costOf : GoodIn wsX5_cheap (wsV RX5 212 RX5 yX5_costOf wsX5_costOf) := goodIn_app (goodIn_of _ (by decide +kernel)) ggX5_cheap_X5_costOf
theorem dX5_cheap_0 : decode cX5_cheap 0 = .ok (.iload_n 1, 1) := by decide +kernel
theorem dX5_cheap_1 : decode cX5_cheap 1 = .ok (.invokestatic 95, 3) := by decide +kernel
theorem dX5_cheap_4 : decode cX5_cheap 4 = .ok (.ifCond .ne 5, 3) := by decide +kernel
theorem dX5_cheap_7 : decode cX5_cheap 7 = .ok (.iconst (-1), 1) := by decide +kernel
theorem dX5_cheap_8 : decode cX5_cheap 8 = .ok (.ireturn, 1) := by decide +kernel
theorem dX5_cheap_9 : decode cX5_cheap 9 = .ok (.iload_n 2, 1) := by decide +kernel
theorem dX5_cheap_10 : decode cX5_cheap 10 = .ok (.i2l, 1) := by decide +kernel
theorem dX5_cheap_11 : decode cX5_cheap 11 = .ok (.lconst 1, 1) := by decide +kernel
theorem dX5_cheap_12 : decode cX5_cheap 12 = .ok (.ldc2_w 198, 3) := by decide +kernel
theorem dX5_cheap_15 : decode cX5_cheap 15 = .ok (.invokestatic 71, 3) := by decide +kernel
theorem dX5_cheap_18 : decode cX5_cheap 18 = .ok (.ifCond .eq 13, 3) := by decide +kernel
theorem dX5_cheap_21 : decode cX5_cheap 21 = .ok (.iload_n 3, 1) := by decide +kernel
theorem dX5_cheap_22 : decode cX5_cheap 22 = .ok (.i2l, 1) := by decide +kernel
theorem dX5_cheap_23 : decode cX5_cheap 23 = .ok (.lconst 0, 1) := by decide +kernel
theorem dX5_cheap_24 : decode cX5_cheap 24 = .ok (.lconst 1, 1) := by decide +kernel
theorem dX5_cheap_25 : decode cX5_cheap 25 = .ok (.invokestatic 71, 3) := by decide +kernel
theorem dX5_cheap_28 : decode cX5_cheap 28 = .ok (.ifCond .ne 6, 3) := by decide +kernel
theorem dX5_cheap_31 : decode cX5_cheap 31 = .ok (.bipush (-2), 2) := by decide +kernel
theorem dX5_cheap_33 : decode cX5_cheap 33 = .ok (.ireturn, 1) := by decide +kernel
theorem dX5_cheap_34 : decode cX5_cheap 34 = .ok (.bipush (-6), 2) := by decide +kernel
theorem dX5_cheap_36 : decode cX5_cheap 36 = .ok (.istore 4, 2) := by decide +kernel
theorem dX5_cheap_38 : decode cX5_cheap 38 = .ok (.iconst 0, 1) := by decide +kernel
theorem dX5_cheap_39 : decode cX5_cheap 39 = .ok (.istore 5, 2) := by decide +kernel
theorem dX5_cheap_41 : decode cX5_cheap 41 = .ok (.iconst 1, 1) := by decide +kernel
theorem dX5_cheap_42 : decode cX5_cheap 42 = .ok (.istore 6, 2) := by decide +kernel
theorem dX5_cheap_44 : decode cX5_cheap 44 = .ok (.iload 6, 2) := by decide +kernel
theorem dX5_cheap_46 : decode cX5_cheap 46 = .ok (.sipush 4095, 3) := by decide +kernel
theorem dX5_cheap_49 : decode cX5_cheap 49 = .ok (.if_icmp .gt 73, 3) := by decide +kernel
theorem dX5_cheap_52 : decode cX5_cheap 52 = .ok (.aload_n 0, 1) := by decide +kernel
theorem dX5_cheap_53 : decode cX5_cheap 53 = .ok (.iload 6, 2) := by decide +kernel
theorem dX5_cheap_55 : decode cX5_cheap 55 = .ok (.iload_n 2, 1) := by decide +kernel
theorem dX5_cheap_56 : decode cX5_cheap 56 = .ok (.invokevirtual 209, 3) := by decide +kernel
theorem dX5_cheap_59 : decode cX5_cheap 59 = .ok (.ifCond .eq 57, 3) := by decide +kernel
theorem dX5_cheap_62 : decode cX5_cheap 62 = .ok (.aload_n 0, 1) := by decide +kernel
theorem dX5_cheap_63 : decode cX5_cheap 63 = .ok (.iload 6, 2) := by decide +kernel
theorem dX5_cheap_65 : decode cX5_cheap 65 = .ok (.aload_n 0, 1) := by decide +kernel
theorem dX5_cheap_66 : decode cX5_cheap 66 = .ok (.getfield 22, 3) := by decide +kernel
theorem dX5_cheap_69 : decode cX5_cheap 69 = .ok (.iload_n 1, 1) := by decide +kernel
theorem dX5_cheap_70 : decode cX5_cheap 70 = .ok (.iaload, 1) := by decide +kernel
theorem dX5_cheap_71 : decode cX5_cheap 71 = .ok (.iconst (-1), 1) := by decide +kernel
theorem dX5_cheap_72 : decode cX5_cheap 72 = .ok (.ixor, 1) := by decide +kernel
theorem dX5_cheap_73 : decode cX5_cheap 73 = .ok (.iand, 1) := by decide +kernel
theorem dX5_cheap_74 : decode cX5_cheap 74 = .ok (.invokevirtual 212, 3) := by decide +kernel
theorem dX5_cheap_77 : decode cX5_cheap 77 = .ok (.istore 7, 2) := by decide +kernel
theorem dX5_cheap_79 : decode cX5_cheap 79 = .ok (.iload 4, 2) := by decide +kernel
theorem dX5_cheap_81 : decode cX5_cheap 81 = .ok (.ifCond .lt 10, 3) := by decide +kernel
theorem dX5_cheap_84 : decode cX5_cheap 84 = .ok (.iload 7, 2) := by decide +kernel
theorem dX5_cheap_86 : decode cX5_cheap 86 = .ok (.iload 5, 2) := by decide +kernel
theorem dX5_cheap_88 : decode cX5_cheap 88 = .ok (.if_icmp .ge 8, 3) := by decide +kernel
theorem dX5_cheap_91 : decode cX5_cheap 91 = .ok (.iload 6, 2) := by decide +kernel
theorem dX5_cheap_93 : decode cX5_cheap 93 = .ok (.goto 5, 3) := by decide +kernel
theorem dX5_cheap_96 : decode cX5_cheap 96 = .ok (.iload 4, 2) := by decide +kernel
theorem dX5_cheap_98 : decode cX5_cheap 98 = .ok (.istore 4, 2) := by decide +kernel
theorem dX5_cheap_100 : decode cX5_cheap 100 = .ok (.iload 4, 2) := by decide +kernel
theorem dX5_cheap_102 : decode cX5_cheap 102 = .ok (.iload 6, 2) := by decide +kernel
theorem dX5_cheap_104 : decode cX5_cheap 104 = .ok (.if_icmp .ne 8, 3) := by decide +kernel
theorem dX5_cheap_107 : decode cX5_cheap 107 = .ok (.iload 7, 2) := by decide +kernel
theorem dX5_cheap_109 : decode cX5_cheap 109 = .ok (.goto 5, 3) := by decide +kernel
theorem dX5_cheap_112 : decode cX5_cheap 112 = .ok (.iload 5, 2) := by decide +kernel
theorem dX5_cheap_114 : decode cX5_cheap 114 = .ok (.istore 5, 2) := by decide +kernel
theorem dX5_cheap_116 : decode cX5_cheap 116 = .ok (.iinc 6 1, 3) := by decide +kernel
theorem dX5_cheap_119 : decode cX5_cheap 119 = .ok (.goto (-75), 3) := by decide +kernel
theorem dX5_cheap_122 : decode cX5_cheap 122 = .ok (.iload 4, 2) := by decide +kernel
theorem dX5_cheap_124 : decode cX5_cheap 124 = .ok (.ifCond .lt 8, 3) := by decide +kernel
theorem dX5_cheap_127 : decode cX5_cheap 127 = .ok (.iload_n 3, 1) := by decide +kernel
theorem dX5_cheap_128 : decode cX5_cheap 128 = .ok (.iconst 1, 1) := by decide +kernel
theorem dX5_cheap_129 : decode cX5_cheap 129 = .ok (.if_icmp .ne 8, 3) := by decide +kernel
theorem dX5_cheap_132 : decode cX5_cheap 132 = .ok (.iload 4, 2) := by decide +kernel
theorem dX5_cheap_134 : decode cX5_cheap 134 = .ok (.goto 5, 3) := by decide +kernel
theorem dX5_cheap_137 : decode cX5_cheap 137 = .ok (.iload 5, 2) := by decide +kernel
theorem dX5_cheap_139 : decode cX5_cheap 139 = .ok (.ireturn, 1) := by decide +kernel
set_option maxRecDepth 20000 in
theorem ggX5_canSay_X5_manyOf : GoodIn wsX5_canSay wsX5_manyOf := goodIn_r _ [5, 6, 7, 8, 9, 10, 11, 12, 13, 14, 15, 16, 17, 18, 19, 20, 21, 22, 23, 24, 25, 26, 27, 28, 29, 30, 31, 32, 33, 34, 35, 36, 37, 38, 39] (by decide +kernel) (by decide +kernel)
set_option maxRecDepth 20000 in
theorem gX5_canSay_X5_manyOf : GoodIn wsX5_canSay (wsV RX5 202 RX5 yX5_manyOf wsX5_manyOf) := goodIn_app (goodIn_of _ (by decide +kernel)) ggX5_canSay_X5_manyOf
theorem dX5_canSay_0 : decode cX5_canSay 0 = .ok (.aload_n 0, 1) := by decide +kernel
theorem dX5_canSay_1 : decode cX5_canSay 1 = .ok (.iload_n 1, 1) := by decide +kernel
theorem dX5_canSay_2 : decode cX5_canSay 2 = .ok (.iconst 0, 1) := by decide +kernel
theorem dX5_canSay_3 : decode cX5_canSay 3 = .ok (.invokevirtual 202, 3) := by decide +kernel
theorem dX5_canSay_6 : decode cX5_canSay 6 = .ok (.istore_n 3, 1) := by decide +kernel
theorem dX5_canSay_7 : decode cX5_canSay 7 = .ok (.aload_n 0, 1) := by decide +kernel
theorem dX5_canSay_8 : decode cX5_canSay 8 = .ok (.iload_n 1, 1) := by decide +kernel
theorem dX5_canSay_9 : decode cX5_canSay 9 = .ok (.iconst 2, 1) := by decide +kernel
theorem dX5_canSay_10 : decode cX5_canSay 10 = .ok (.invokevirtual 202, 3) := by decide +kernel
theorem dX5_canSay_13 : decode cX5_canSay 13 = .ok (.istore 4, 2) := by decide +kernel
theorem dX5_canSay_15 : decode cX5_canSay 15 = .ok (.iload_n 2, 1) := by decide +kernel
theorem dX5_canSay_16 : decode cX5_canSay 16 = .ok (.iconst 2, 1) := by decide +kernel
theorem dX5_canSay_17 : decode cX5_canSay 17 = .ok (.if_icmp .lt 20, 3) := by decide +kernel
theorem dX5_canSay_20 : decode cX5_canSay 20 = .ok (.iload_n 3, 1) := by decide +kernel
theorem dX5_canSay_21 : decode cX5_canSay 21 = .ok (.iconst 1, 1) := by decide +kernel
theorem dX5_canSay_22 : decode cX5_canSay 22 = .ok (.if_icmp .lt 15, 3) := by decide +kernel
theorem dX5_canSay_25 : decode cX5_canSay 25 = .ok (.iload 4, 2) := by decide +kernel
theorem dX5_canSay_27 : decode cX5_canSay 27 = .ok (.iload_n 2, 1) := by decide +kernel
theorem dX5_canSay_28 : decode cX5_canSay 28 = .ok (.iconst 2, 1) := by decide +kernel
theorem dX5_canSay_29 : decode cX5_canSay 29 = .ok (.isub, 1) := by decide +kernel
theorem dX5_canSay_30 : decode cX5_canSay 30 = .ok (.if_icmp .lt 7, 3) := by decide +kernel
theorem dX5_canSay_33 : decode cX5_canSay 33 = .ok (.iconst 1, 1) := by decide +kernel
theorem dX5_canSay_34 : decode cX5_canSay 34 = .ok (.goto 4, 3) := by decide +kernel
theorem dX5_canSay_37 : decode cX5_canSay 37 = .ok (.iconst 0, 1) := by decide +kernel
theorem dX5_canSay_38 : decode cX5_canSay 38 = .ok (.istore 5, 2) := by decide +kernel
theorem dX5_canSay_40 : decode cX5_canSay 40 = .ok (.iload_n 2, 1) := by decide +kernel
theorem dX5_canSay_41 : decode cX5_canSay 41 = .ok (.iconst 3, 1) := by decide +kernel
theorem dX5_canSay_42 : decode cX5_canSay 42 = .ok (.if_icmp .lt 20, 3) := by decide +kernel
theorem dX5_canSay_45 : decode cX5_canSay 45 = .ok (.iload_n 3, 1) := by decide +kernel
theorem dX5_canSay_46 : decode cX5_canSay 46 = .ok (.iconst 2, 1) := by decide +kernel
theorem dX5_canSay_47 : decode cX5_canSay 47 = .ok (.if_icmp .lt 15, 3) := by decide +kernel
theorem dX5_canSay_50 : decode cX5_canSay 50 = .ok (.iload 4, 2) := by decide +kernel
theorem dX5_canSay_52 : decode cX5_canSay 52 = .ok (.iload_n 2, 1) := by decide +kernel
theorem dX5_canSay_53 : decode cX5_canSay 53 = .ok (.iconst 3, 1) := by decide +kernel
theorem dX5_canSay_54 : decode cX5_canSay 54 = .ok (.isub, 1) := by decide +kernel
theorem dX5_canSay_55 : decode cX5_canSay 55 = .ok (.if_icmp .lt 7, 3) := by decide +kernel
theorem dX5_canSay_58 : decode cX5_canSay 58 = .ok (.iconst 1, 1) := by decide +kernel
theorem dX5_canSay_59 : decode cX5_canSay 59 = .ok (.goto 4, 3) := by decide +kernel
theorem dX5_canSay_62 : decode cX5_canSay 62 = .ok (.iconst 0, 1) := by decide +kernel
theorem dX5_canSay_63 : decode cX5_canSay 63 = .ok (.istore 6, 2) := by decide +kernel
theorem dX5_canSay_65 : decode cX5_canSay 65 = .ok (.aload_n 0, 1) := by decide +kernel
theorem dX5_canSay_66 : decode cX5_canSay 66 = .ok (.iload_n 1, 1) := by decide +kernel
theorem dX5_canSay_67 : decode cX5_canSay 67 = .ok (.iconst 1, 1) := by decide +kernel
theorem dX5_canSay_68 : decode cX5_canSay 68 = .ok (.invokevirtual 202, 3) := by decide +kernel
theorem dX5_canSay_71 : decode cX5_canSay 71 = .ok (.iconst 1, 1) := by decide +kernel
theorem dX5_canSay_72 : decode cX5_canSay 72 = .ok (.if_icmp .lt 17, 3) := by decide +kernel
theorem dX5_canSay_75 : decode cX5_canSay 75 = .ok (.iload 5, 2) := by decide +kernel
theorem dX5_canSay_77 : decode cX5_canSay 77 = .ok (.ifCond .ne 8, 3) := by decide +kernel
theorem dX5_canSay_80 : decode cX5_canSay 80 = .ok (.iload 6, 2) := by decide +kernel
theorem dX5_canSay_82 : decode cX5_canSay 82 = .ok (.ifCond .eq 7, 3) := by decide +kernel
theorem dX5_canSay_85 : decode cX5_canSay 85 = .ok (.iconst 1, 1) := by decide +kernel
theorem dX5_canSay_86 : decode cX5_canSay 86 = .ok (.goto 4, 3) := by decide +kernel
theorem dX5_canSay_89 : decode cX5_canSay 89 = .ok (.iconst 0, 1) := by decide +kernel
theorem dX5_canSay_90 : decode cX5_canSay 90 = .ok (.ireturn, 1) := by decide +kernel
set_option maxRecDepth 20000 in
theorem ggX5_pool_X5_in : GoodIn wsX5_pool wsX5_in := goodIn_r _ [6] (by decide +kernel) (by decide +kernel)
set_option maxRecDepth 20000 in
theorem gX5_pool_X5_in : GoodIn wsX5_pool (va_wsS RX5 71 yX5_in wsX5_in) := goodIn_app (goodIn_of _ (by decide +kernel)) ggX5_pool_X5_in
set_option maxRecDepth 20000 in
theorem ggX5_pool_X5_canSay : GoodIn wsX5_pool wsX5_canSay := goodIn_r _ [10, 11, 12, 13, 5, 14, 15, 19, 20, 21, 22, 23, 24, 25, 26, 27, 28, 29, 30, 31, 32, 33, 34, 35, 36, 37, 38, 39, 40, 41, 42, 43, 44, 45, 46, 47, 48, 49, 50, 51] (by decide +kernel) (by decide +kernel)
set_option maxRecDepth 20000 in
theorem gX5_pool_X5_canSay : GoodIn wsX5_pool (wsV RX5 215 RX5 yX5_canSay wsX5_canSay) := goodIn_app (goodIn_of _ (by decide +kernel)) ggX5_pool_X5_canSay
set_option maxRecDepth 20000 in
theorem ggX5_pool_X5_ones : GoodIn wsX5_pool wsX5_ones := goodIn_r _ [18] (by decide +kernel) (by decide +kernel)
set_option maxRecDepth 20000 in
theorem gX5_pool_X5_ones : GoodIn wsX5_pool (va_wsS RX5 89 yX5_ones wsX5_ones) := goodIn_app (goodIn_of _ (by decide +kernel)) ggX5_pool_X5_ones
theorem dX5_pool_0 : decode cX5_pool 0 = .ok (.iload_n 1, 1) := by decide +kernel
theorem dX5_pool_1 : decode cX5_pool 1 = .ok (.i2l, 1) := by decide +kernel
theorem dX5_pool_2 : decode cX5_pool 2 = .ok (.lconst 1, 1) := by decide +kernel
theorem dX5_pool_3 : decode cX5_pool 3 = .ok (.ldc2_w 198, 3) := by decide +kernel
theorem dX5_pool_6 : decode cX5_pool 6 = .ok (.invokestatic 71, 3) := by decide +kernel
theorem dX5_pool_9 : decode cX5_pool 9 = .ok (.ifCond .eq 13, 3) := by decide +kernel
theorem dX5_pool_12 : decode cX5_pool 12 = .ok (.iload_n 2, 1) := by decide +kernel
theorem dX5_pool_13 : decode cX5_pool 13 = .ok (.i2l, 1) := by decide +kernel
theorem dX5_pool_14 : decode cX5_pool 14 = .ok (.lconst 0, 1) := by decide +kernel
theorem dX5_pool_15 : decode cX5_pool 15 = .ok (.lconst 1, 1) := by decide +kernel
theorem dX5_pool_16 : decode cX5_pool 16 = .ok (.invokestatic 71, 3) := by decide +kernel
theorem dX5_pool_19 : decode cX5_pool 19 = .ok (.ifCond .ne 6, 3) := by decide +kernel
theorem dX5_pool_22 : decode cX5_pool 22 = .ok (.bipush (-2), 2) := by decide +kernel
theorem dX5_pool_24 : decode cX5_pool 24 = .ok (.ireturn, 1) := by decide +kernel
theorem dX5_pool_25 : decode cX5_pool 25 = .ok (.bipush (-6), 2) := by decide +kernel
theorem dX5_pool_27 : decode cX5_pool 27 = .ok (.istore_n 3, 1) := by decide +kernel
theorem dX5_pool_28 : decode cX5_pool 28 = .ok (.iconst 1, 1) := by decide +kernel
theorem dX5_pool_29 : decode cX5_pool 29 = .ok (.istore 4, 2) := by decide +kernel
theorem dX5_pool_31 : decode cX5_pool 31 = .ok (.iload 4, 2) := by decide +kernel
theorem dX5_pool_33 : decode cX5_pool 33 = .ok (.bipush 16, 2) := by decide +kernel
theorem dX5_pool_35 : decode cX5_pool 35 = .ok (.if_icmp .ge 87, 3) := by decide +kernel
theorem dX5_pool_38 : decode cX5_pool 38 = .ok (.iconst 0, 1) := by decide +kernel
theorem dX5_pool_39 : decode cX5_pool 39 = .ok (.istore 5, 2) := by decide +kernel
theorem dX5_pool_41 : decode cX5_pool 41 = .ok (.iconst 0, 1) := by decide +kernel
theorem dX5_pool_42 : decode cX5_pool 42 = .ok (.istore 6, 2) := by decide +kernel
theorem dX5_pool_44 : decode cX5_pool 44 = .ok (.iload 6, 2) := by decide +kernel
theorem dX5_pool_46 : decode cX5_pool 46 = .ok (.iconst 4, 1) := by decide +kernel
theorem dX5_pool_47 : decode cX5_pool 47 = .ok (.if_icmp .ge 36, 3) := by decide +kernel
theorem dX5_pool_50 : decode cX5_pool 50 = .ok (.iload 5, 2) := by decide +kernel
theorem dX5_pool_52 : decode cX5_pool 52 = .ok (.iload 4, 2) := by decide +kernel
theorem dX5_pool_54 : decode cX5_pool 54 = .ok (.iload 6, 2) := by decide +kernel
theorem dX5_pool_56 : decode cX5_pool 56 = .ok (.ishr, 1) := by decide +kernel
theorem dX5_pool_57 : decode cX5_pool 57 = .ok (.iconst 1, 1) := by decide +kernel
theorem dX5_pool_58 : decode cX5_pool 58 = .ok (.iand, 1) := by decide +kernel
theorem dX5_pool_59 : decode cX5_pool 59 = .ok (.iconst 1, 1) := by decide +kernel
theorem dX5_pool_60 : decode cX5_pool 60 = .ok (.if_icmp .ne 13, 3) := by decide +kernel
theorem dX5_pool_63 : decode cX5_pool 63 = .ok (.aload_n 0, 1) := by decide +kernel
theorem dX5_pool_64 : decode cX5_pool 64 = .ok (.getfield 22, 3) := by decide +kernel
theorem dX5_pool_67 : decode cX5_pool 67 = .ok (.iload 6, 2) := by decide +kernel
theorem dX5_pool_69 : decode cX5_pool 69 = .ok (.iaload, 1) := by decide +kernel
theorem dX5_pool_70 : decode cX5_pool 70 = .ok (.goto 4, 3) := by decide +kernel
theorem dX5_pool_73 : decode cX5_pool 73 = .ok (.iconst 0, 1) := by decide +kernel
theorem dX5_pool_74 : decode cX5_pool 74 = .ok (.ior, 1) := by decide +kernel
theorem dX5_pool_75 : decode cX5_pool 75 = .ok (.istore 5, 2) := by decide +kernel
theorem dX5_pool_77 : decode cX5_pool 77 = .ok (.iinc 6 1, 3) := by decide +kernel
theorem dX5_pool_80 : decode cX5_pool 80 = .ok (.goto (-36), 3) := by decide +kernel
theorem dX5_pool_83 : decode cX5_pool 83 = .ok (.aload_n 0, 1) := by decide +kernel
theorem dX5_pool_84 : decode cX5_pool 84 = .ok (.iload 5, 2) := by decide +kernel
theorem dX5_pool_86 : decode cX5_pool 86 = .ok (.iload_n 1, 1) := by decide +kernel
theorem dX5_pool_87 : decode cX5_pool 87 = .ok (.invokevirtual 215, 3) := by decide +kernel
theorem dX5_pool_90 : decode cX5_pool 90 = .ok (.ifCond .eq 24, 3) := by decide +kernel
theorem dX5_pool_93 : decode cX5_pool 93 = .ok (.iload_n 3, 1) := by decide +kernel
theorem dX5_pool_94 : decode cX5_pool 94 = .ok (.ifCond .lt 15, 3) := by decide +kernel
theorem dX5_pool_97 : decode cX5_pool 97 = .ok (.iload 4, 2) := by decide +kernel
theorem dX5_pool_99 : decode cX5_pool 99 = .ok (.invokestatic 89, 3) := by decide +kernel
theorem dX5_pool_102 : decode cX5_pool 102 = .ok (.iload_n 3, 1) := by decide +kernel
theorem dX5_pool_103 : decode cX5_pool 103 = .ok (.invokestatic 89, 3) := by decide +kernel
theorem dX5_pool_106 : decode cX5_pool 106 = .ok (.if_icmp .ge 8, 3) := by decide +kernel
theorem dX5_pool_109 : decode cX5_pool 109 = .ok (.iload 4, 2) := by decide +kernel
theorem dX5_pool_111 : decode cX5_pool 111 = .ok (.goto 4, 3) := by decide +kernel
theorem dX5_pool_114 : decode cX5_pool 114 = .ok (.iload_n 3, 1) := by decide +kernel
theorem dX5_pool_115 : decode cX5_pool 115 = .ok (.istore_n 3, 1) := by decide +kernel
theorem dX5_pool_116 : decode cX5_pool 116 = .ok (.iinc 4 1, 3) := by decide +kernel
theorem dX5_pool_119 : decode cX5_pool 119 = .ok (.goto (-88), 3) := by decide +kernel
theorem dX5_pool_122 : decode cX5_pool 122 = .ok (.iload_n 3, 1) := by decide +kernel
theorem dX5_pool_123 : decode cX5_pool 123 = .ok (.ifCond .lt 8, 3) := by decide +kernel
theorem dX5_pool_126 : decode cX5_pool 126 = .ok (.iload_n 2, 1) := by decide +kernel
theorem dX5_pool_127 : decode cX5_pool 127 = .ok (.iconst 1, 1) := by decide +kernel
theorem dX5_pool_128 : decode cX5_pool 128 = .ok (.if_icmp .ne 7, 3) := by decide +kernel
theorem dX5_pool_131 : decode cX5_pool 131 = .ok (.iload_n 3, 1) := by decide +kernel
theorem dX5_pool_132 : decode cX5_pool 132 = .ok (.goto 7, 3) := by decide +kernel
theorem dX5_pool_135 : decode cX5_pool 135 = .ok (.iload_n 3, 1) := by decide +kernel
theorem dX5_pool_136 : decode cX5_pool 136 = .ok (.invokestatic 89, 3) := by decide +kernel
theorem dX5_pool_139 : decode cX5_pool 139 = .ok (.ireturn, 1) := by decide +kernel
set_option maxRecDepth 20000 in
theorem ggX5_wish_X5_in : GoodIn wsX5_wish wsX5_in := goodIn_r _ [7] (by decide +kernel) (by decide +kernel)
set_option maxRecDepth 20000 in
theorem gX5_wish_X5_in : GoodIn wsX5_wish (va_wsS RX5 71 yX5_in wsX5_in) := goodIn_app (goodIn_of _ (by decide +kernel)) ggX5_wish_X5_in
theorem dX5_wish_0 : decode cX5_wish 0 = .ok (.iload_n 1, 1) := by decide +kernel
theorem dX5_wish_1 : decode cX5_wish 1 = .ok (.i2l, 1) := by decide +kernel
theorem dX5_wish_2 : decode cX5_wish 2 = .ok (.lconst 0, 1) := by decide +kernel
theorem dX5_wish_3 : decode cX5_wish 3 = .ok (.ldc2_w 100, 3) := by decide +kernel
theorem dX5_wish_6 : decode cX5_wish 6 = .ok (.invokestatic 71, 3) := by decide +kernel
theorem dX5_wish_9 : decode cX5_wish 9 = .ok (.ifCond .ne 6, 3) := by decide +kernel
theorem dX5_wish_12 : decode cX5_wish 12 = .ok (.bipush (-2), 2) := by decide +kernel
theorem dX5_wish_14 : decode cX5_wish 14 = .ok (.ireturn, 1) := by decide +kernel
theorem dX5_wish_15 : decode cX5_wish 15 = .ok (.aload_n 0, 1) := by decide +kernel
theorem dX5_wish_16 : decode cX5_wish 16 = .ok (.getfield 218, 3) := by decide +kernel
theorem dX5_wish_19 : decode cX5_wish 19 = .ok (.bipush 8, 2) := by decide +kernel
theorem dX5_wish_21 : decode cX5_wish 21 = .ok (.if_icmp .ne 6, 3) := by decide +kernel
theorem dX5_wish_24 : decode cX5_wish 24 = .ok (.bipush (-4), 2) := by decide +kernel
theorem dX5_wish_26 : decode cX5_wish 26 = .ok (.ireturn, 1) := by decide +kernel
theorem dX5_wish_27 : decode cX5_wish 27 = .ok (.aload_n 0, 1) := by decide +kernel
theorem dX5_wish_28 : decode cX5_wish 28 = .ok (.getfield 25, 3) := by decide +kernel
theorem dX5_wish_31 : decode cX5_wish 31 = .ok (.aload_n 0, 1) := by decide +kernel
theorem dX5_wish_32 : decode cX5_wish 32 = .ok (.getfield 218, 3) := by decide +kernel
theorem dX5_wish_35 : decode cX5_wish 35 = .ok (.iload_n 1, 1) := by decide +kernel
theorem dX5_wish_36 : decode cX5_wish 36 = .ok (.iastore, 1) := by decide +kernel
theorem dX5_wish_37 : decode cX5_wish 37 = .ok (.aload_n 0, 1) := by decide +kernel
theorem dX5_wish_38 : decode cX5_wish 38 = .ok (.dup, 1) := by decide +kernel
theorem dX5_wish_39 : decode cX5_wish 39 = .ok (.getfield 218, 3) := by decide +kernel
theorem dX5_wish_42 : decode cX5_wish 42 = .ok (.iconst 1, 1) := by decide +kernel
theorem dX5_wish_43 : decode cX5_wish 43 = .ok (.iadd, 1) := by decide +kernel
theorem dX5_wish_44 : decode cX5_wish 44 = .ok (.putfield 218, 3) := by decide +kernel
theorem dX5_wish_47 : decode cX5_wish 47 = .ok (.aload_n 0, 1) := by decide +kernel
theorem dX5_wish_48 : decode cX5_wish 48 = .ok (.getfield 218, 3) := by decide +kernel
theorem dX5_wish_51 : decode cX5_wish 51 = .ok (.ireturn, 1) := by decide +kernel
theorem dX5_unwish_0 : decode cX5_unwish 0 = .ok (.aload_n 0, 1) := by decide +kernel
theorem dX5_unwish_1 : decode cX5_unwish 1 = .ok (.getfield 218, 3) := by decide +kernel
theorem dX5_unwish_4 : decode cX5_unwish 4 = .ok (.istore_n 1, 1) := by decide +kernel
theorem dX5_unwish_5 : decode cX5_unwish 5 = .ok (.aload_n 0, 1) := by decide +kernel
theorem dX5_unwish_6 : decode cX5_unwish 6 = .ok (.iconst 0, 1) := by decide +kernel
theorem dX5_unwish_7 : decode cX5_unwish 7 = .ok (.putfield 218, 3) := by decide +kernel
theorem dX5_unwish_10 : decode cX5_unwish 10 = .ok (.iload_n 1, 1) := by decide +kernel
theorem dX5_unwish_11 : decode cX5_unwish 11 = .ok (.ireturn, 1) := by decide +kernel
theorem dX5_asksAll_0 : decode cX5_asksAll 0 = .ok (.iconst 1, 1) := by decide +kernel
theorem dX5_asksAll_1 : decode cX5_asksAll 1 = .ok (.istore_n 2, 1) := by decide +kernel
theorem dX5_asksAll_2 : decode cX5_asksAll 2 = .ok (.iconst 0, 1) := by decide +kernel
theorem dX5_asksAll_3 : decode cX5_asksAll 3 = .ok (.istore_n 3, 1) := by decide +kernel
theorem dX5_asksAll_4 : decode cX5_asksAll 4 = .ok (.iload_n 3, 1) := by decide +kernel
theorem dX5_asksAll_5 : decode cX5_asksAll 5 = .ok (.aload_n 0, 1) := by decide +kernel
theorem dX5_asksAll_6 : decode cX5_asksAll 6 = .ok (.getfield 218, 3) := by decide +kernel
theorem dX5_asksAll_9 : decode cX5_asksAll 9 = .ok (.if_icmp .ge 30, 3) := by decide +kernel
theorem dX5_asksAll_12 : decode cX5_asksAll 12 = .ok (.iload_n 2, 1) := by decide +kernel
theorem dX5_asksAll_13 : decode cX5_asksAll 13 = .ok (.ifCond .eq 18, 3) := by decide +kernel
theorem dX5_asksAll_16 : decode cX5_asksAll 16 = .ok (.iload_n 1, 1) := by decide +kernel
theorem dX5_asksAll_17 : decode cX5_asksAll 17 = .ok (.aload_n 0, 1) := by decide +kernel
theorem dX5_asksAll_18 : decode cX5_asksAll 18 = .ok (.getfield 25, 3) := by decide +kernel
theorem dX5_asksAll_21 : decode cX5_asksAll 21 = .ok (.iload_n 3, 1) := by decide +kernel
theorem dX5_asksAll_22 : decode cX5_asksAll 22 = .ok (.iaload, 1) := by decide +kernel
theorem dX5_asksAll_23 : decode cX5_asksAll 23 = .ok (.iand, 1) := by decide +kernel
theorem dX5_asksAll_24 : decode cX5_asksAll 24 = .ok (.ifCond .eq 7, 3) := by decide +kernel
theorem dX5_asksAll_27 : decode cX5_asksAll 27 = .ok (.iconst 1, 1) := by decide +kernel
theorem dX5_asksAll_28 : decode cX5_asksAll 28 = .ok (.goto 4, 3) := by decide +kernel
theorem dX5_asksAll_31 : decode cX5_asksAll 31 = .ok (.iconst 0, 1) := by decide +kernel
theorem dX5_asksAll_32 : decode cX5_asksAll 32 = .ok (.istore_n 2, 1) := by decide +kernel
theorem dX5_asksAll_33 : decode cX5_asksAll 33 = .ok (.iinc 3 1, 3) := by decide +kernel
theorem dX5_asksAll_36 : decode cX5_asksAll 36 = .ok (.goto (-32), 3) := by decide +kernel
theorem dX5_asksAll_39 : decode cX5_asksAll 39 = .ok (.iload_n 2, 1) := by decide +kernel
theorem dX5_asksAll_40 : decode cX5_asksAll 40 = .ok (.ireturn, 1) := by decide +kernel
set_option maxRecDepth 20000 in
theorem ggX5_nine_X5_in : GoodIn wsX5_nine wsX5_in := goodIn_r _ [4] (by decide +kernel) (by decide +kernel)
set_option maxRecDepth 20000 in
theorem gX5_nine_X5_in : GoodIn wsX5_nine (va_wsS RX5 71 yX5_in wsX5_in) := goodIn_app (goodIn_of _ (by decide +kernel)) ggX5_nine_X5_in
set_option maxRecDepth 20000 in
theorem ggX5_nine_X5_ones : GoodIn wsX5_nine wsX5_ones := goodIn_r _ [7] (by decide +kernel) (by decide +kernel)
set_option maxRecDepth 20000 in
theorem gX5_nine_X5_ones : GoodIn wsX5_nine (va_wsS RX5 89 yX5_ones wsX5_ones) := goodIn_app (goodIn_of _ (by decide +kernel)) ggX5_nine_X5_ones
set_option maxRecDepth 20000 in
theorem ggX5_nine_X5_asksAll : GoodIn wsX5_nine wsX5_asksAll := goodIn_r _ [11, 12, 13, 14, 15, 16, 17, 18, 19, 20, 21, 22, 23, 24, 25, 26, 27, 28, 29, 30, 31, 32, 33, 34, 35, 36, 37, 38, 39, 40, 41, 42, 43, 44, 45, 46] (by decide +kernel) (by decide +kernel)
set_option maxRecDepth 20000 in
theorem gX5_nine_X5_asksAll : GoodIn wsX5_nine (wsV RX5 221 RX5 yX5_asksAll wsX5_asksAll) := goodIn_app (goodIn_of _ (by decide +kernel)) ggX5_nine_X5_asksAll
theorem dX5_nine_0 : decode cX5_nine 0 = .ok (.iload_n 1, 1) := by decide +kernel
theorem dX5_nine_1 : decode cX5_nine 1 = .ok (.i2l, 1) := by decide +kernel
theorem dX5_nine_2 : decode cX5_nine 2 = .ok (.lconst 0, 1) := by decide +kernel
theorem dX5_nine_3 : decode cX5_nine 3 = .ok (.lconst 1, 1) := by decide +kernel
theorem dX5_nine_4 : decode cX5_nine 4 = .ok (.invokestatic 71, 3) := by decide +kernel
theorem dX5_nine_7 : decode cX5_nine 7 = .ok (.ifCond .ne 6, 3) := by decide +kernel
theorem dX5_nine_10 : decode cX5_nine 10 = .ok (.bipush (-2), 2) := by decide +kernel
theorem dX5_nine_12 : decode cX5_nine 12 = .ok (.ireturn, 1) := by decide +kernel
theorem dX5_nine_13 : decode cX5_nine 13 = .ok (.bipush (-6), 2) := by decide +kernel
theorem dX5_nine_15 : decode cX5_nine 15 = .ok (.istore_n 2, 1) := by decide +kernel
theorem dX5_nine_16 : decode cX5_nine 16 = .ok (.iconst 0, 1) := by decide +kernel
theorem dX5_nine_17 : decode cX5_nine 17 = .ok (.istore_n 3, 1) := by decide +kernel
theorem dX5_nine_18 : decode cX5_nine 18 = .ok (.iload_n 3, 1) := by decide +kernel
theorem dX5_nine_19 : decode cX5_nine 19 = .ok (.sipush 4095, 3) := by decide +kernel
theorem dX5_nine_22 : decode cX5_nine 22 = .ok (.if_icmp .gt 50, 3) := by decide +kernel
theorem dX5_nine_25 : decode cX5_nine 25 = .ok (.iload_n 2, 1) := by decide +kernel
theorem dX5_nine_26 : decode cX5_nine 26 = .ok (.ifCond .lt 14, 3) := by decide +kernel
theorem dX5_nine_29 : decode cX5_nine 29 = .ok (.iload_n 3, 1) := by decide +kernel
theorem dX5_nine_30 : decode cX5_nine 30 = .ok (.invokestatic 89, 3) := by decide +kernel
theorem dX5_nine_33 : decode cX5_nine 33 = .ok (.iload_n 2, 1) := by decide +kernel
theorem dX5_nine_34 : decode cX5_nine 34 = .ok (.invokestatic 89, 3) := by decide +kernel
theorem dX5_nine_37 : decode cX5_nine 37 = .ok (.if_icmp .ge 7, 3) := by decide +kernel
theorem dX5_nine_40 : decode cX5_nine 40 = .ok (.iconst 1, 1) := by decide +kernel
theorem dX5_nine_41 : decode cX5_nine 41 = .ok (.goto 4, 3) := by decide +kernel
theorem dX5_nine_44 : decode cX5_nine 44 = .ok (.iconst 0, 1) := by decide +kernel
theorem dX5_nine_45 : decode cX5_nine 45 = .ok (.istore 4, 2) := by decide +kernel
theorem dX5_nine_47 : decode cX5_nine 47 = .ok (.iload 4, 2) := by decide +kernel
theorem dX5_nine_49 : decode cX5_nine 49 = .ok (.ifCond .eq 15, 3) := by decide +kernel
theorem dX5_nine_52 : decode cX5_nine 52 = .ok (.aload_n 0, 1) := by decide +kernel
theorem dX5_nine_53 : decode cX5_nine 53 = .ok (.iload_n 3, 1) := by decide +kernel
theorem dX5_nine_54 : decode cX5_nine 54 = .ok (.invokevirtual 221, 3) := by decide +kernel
theorem dX5_nine_57 : decode cX5_nine 57 = .ok (.ifCond .eq 7, 3) := by decide +kernel
theorem dX5_nine_60 : decode cX5_nine 60 = .ok (.iload_n 3, 1) := by decide +kernel
theorem dX5_nine_61 : decode cX5_nine 61 = .ok (.goto 4, 3) := by decide +kernel
theorem dX5_nine_64 : decode cX5_nine 64 = .ok (.iload_n 2, 1) := by decide +kernel
theorem dX5_nine_65 : decode cX5_nine 65 = .ok (.istore_n 2, 1) := by decide +kernel
theorem dX5_nine_66 : decode cX5_nine 66 = .ok (.iinc 3 1, 3) := by decide +kernel
theorem dX5_nine_69 : decode cX5_nine 69 = .ok (.goto (-51), 3) := by decide +kernel
theorem dX5_nine_72 : decode cX5_nine 72 = .ok (.iload_n 2, 1) := by decide +kernel
theorem dX5_nine_73 : decode cX5_nine 73 = .ok (.ifCond .lt 8, 3) := by decide +kernel
theorem dX5_nine_76 : decode cX5_nine 76 = .ok (.iload_n 1, 1) := by decide +kernel
theorem dX5_nine_77 : decode cX5_nine 77 = .ok (.iconst 1, 1) := by decide +kernel
theorem dX5_nine_78 : decode cX5_nine 78 = .ok (.if_icmp .ne 7, 3) := by decide +kernel
theorem dX5_nine_81 : decode cX5_nine 81 = .ok (.iload_n 2, 1) := by decide +kernel
theorem dX5_nine_82 : decode cX5_nine 82 = .ok (.goto 7, 3) := by decide +kernel
theorem dX5_nine_85 : decode cX5_nine 85 = .ok (.iload_n 2, 1) := by decide +kernel
theorem dX5_nine_86 : decode cX5_nine 86 = .ok (.invokestatic 89, 3) := by decide +kernel
theorem dX5_nine_89 : decode cX5_nine 89 = .ok (.ireturn, 1) := by decide +kernel
set_option maxRecDepth 20000 in
theorem ggX5_seen_X5_in : GoodIn wsX5_seen wsX5_in := goodIn_r _ [10] (by decide +kernel) (by decide +kernel)
set_option maxRecDepth 20000 in
theorem gX5_seen_X5_in : GoodIn wsX5_seen (va_wsS RX5 71 yX5_in wsX5_in) := goodIn_app (goodIn_of _ (by decide +kernel)) ggX5_seen_X5_in
set_option maxRecDepth 20000 in
theorem ggX5_seen_X5_ones : GoodIn wsX5_seen wsX5_ones := goodIn_r _ [13] (by decide +kernel) (by decide +kernel)
set_option maxRecDepth 20000 in
theorem gX5_seen_X5_ones : GoodIn wsX5_seen (va_wsS RX5 89 yX5_ones wsX5_ones) := goodIn_app (goodIn_of _ (by decide +kernel)) ggX5_seen_X5_ones
theorem dX5_seen_0 : decode cX5_seen 0 = .ok (.iload_n 1, 1) := by decide +kernel
theorem dX5_seen_1 : decode cX5_seen 1 = .ok (.i2l, 1) := by decide +kernel
theorem dX5_seen_2 : decode cX5_seen 2 = .ok (.lconst 0, 1) := by decide +kernel
theorem dX5_seen_3 : decode cX5_seen 3 = .ok (.ldc2_w 100, 3) := by decide +kernel
theorem dX5_seen_6 : decode cX5_seen 6 = .ok (.invokestatic 71, 3) := by decide +kernel
theorem dX5_seen_9 : decode cX5_seen 9 = .ok (.ifCond .eq 31, 3) := by decide +kernel
theorem dX5_seen_12 : decode cX5_seen 12 = .ok (.iload_n 2, 1) := by decide +kernel
theorem dX5_seen_13 : decode cX5_seen 13 = .ok (.i2l, 1) := by decide +kernel
theorem dX5_seen_14 : decode cX5_seen 14 = .ok (.lconst 0, 1) := by decide +kernel
theorem dX5_seen_15 : decode cX5_seen 15 = .ok (.ldc2_w 100, 3) := by decide +kernel
theorem dX5_seen_18 : decode cX5_seen 18 = .ok (.invokestatic 71, 3) := by decide +kernel
theorem dX5_seen_21 : decode cX5_seen 21 = .ok (.ifCond .eq 19, 3) := by decide +kernel
theorem dX5_seen_24 : decode cX5_seen 24 = .ok (.iload_n 3, 1) := by decide +kernel
theorem dX5_seen_25 : decode cX5_seen 25 = .ok (.i2l, 1) := by decide +kernel
theorem dX5_seen_26 : decode cX5_seen 26 = .ok (.lconst 0, 1) := by decide +kernel
theorem dX5_seen_27 : decode cX5_seen 27 = .ok (.ldc2_w 83, 3) := by decide +kernel
theorem dX5_seen_30 : decode cX5_seen 30 = .ok (.invokestatic 71, 3) := by decide +kernel
theorem dX5_seen_33 : decode cX5_seen 33 = .ok (.ifCond .eq 7, 3) := by decide +kernel
theorem dX5_seen_36 : decode cX5_seen 36 = .ok (.iconst 1, 1) := by decide +kernel
theorem dX5_seen_37 : decode cX5_seen 37 = .ok (.goto 4, 3) := by decide +kernel
theorem dX5_seen_40 : decode cX5_seen 40 = .ok (.iconst 0, 1) := by decide +kernel
theorem dX5_seen_41 : decode cX5_seen 41 = .ok (.istore 4, 2) := by decide +kernel
theorem dX5_seen_43 : decode cX5_seen 43 = .ok (.iload 4, 2) := by decide +kernel
theorem dX5_seen_45 : decode cX5_seen 45 = .ok (.ifCond .eq 20, 3) := by decide +kernel
theorem dX5_seen_48 : decode cX5_seen 48 = .ok (.iload_n 1, 1) := by decide +kernel
theorem dX5_seen_49 : decode cX5_seen 49 = .ok (.invokestatic 89, 3) := by decide +kernel
theorem dX5_seen_52 : decode cX5_seen 52 = .ok (.iload_n 2, 1) := by decide +kernel
theorem dX5_seen_53 : decode cX5_seen 53 = .ok (.invokestatic 89, 3) := by decide +kernel
theorem dX5_seen_56 : decode cX5_seen 56 = .ok (.if_icmp .ne 9, 3) := by decide +kernel
theorem dX5_seen_59 : decode cX5_seen 59 = .ok (.iload_n 1, 1) := by decide +kernel
theorem dX5_seen_60 : decode cX5_seen 60 = .ok (.iload_n 2, 1) := by decide +kernel
theorem dX5_seen_61 : decode cX5_seen 61 = .ok (.iand, 1) := by decide +kernel
theorem dX5_seen_62 : decode cX5_seen 62 = .ok (.ifCond .eq 6, 3) := by decide +kernel
theorem dX5_seen_65 : decode cX5_seen 65 = .ok (.bipush (-2), 2) := by decide +kernel
theorem dX5_seen_67 : decode cX5_seen 67 = .ok (.ireturn, 1) := by decide +kernel
theorem dX5_seen_68 : decode cX5_seen 68 = .ok (.aload_n 0, 1) := by decide +kernel
theorem dX5_seen_69 : decode cX5_seen 69 = .ok (.getfield 224, 3) := by decide +kernel
theorem dX5_seen_72 : decode cX5_seen 72 = .ok (.bipush 6, 2) := by decide +kernel
theorem dX5_seen_74 : decode cX5_seen 74 = .ok (.if_icmp .ne 6, 3) := by decide +kernel
theorem dX5_seen_77 : decode cX5_seen 77 = .ok (.bipush (-4), 2) := by decide +kernel
theorem dX5_seen_79 : decode cX5_seen 79 = .ok (.ireturn, 1) := by decide +kernel
theorem dX5_seen_80 : decode cX5_seen 80 = .ok (.aload_n 0, 1) := by decide +kernel
theorem dX5_seen_81 : decode cX5_seen 81 = .ok (.getfield 28, 3) := by decide +kernel
theorem dX5_seen_84 : decode cX5_seen 84 = .ok (.aload_n 0, 1) := by decide +kernel
theorem dX5_seen_85 : decode cX5_seen 85 = .ok (.getfield 224, 3) := by decide +kernel
theorem dX5_seen_88 : decode cX5_seen 88 = .ok (.iload_n 1, 1) := by decide +kernel
theorem dX5_seen_89 : decode cX5_seen 89 = .ok (.iastore, 1) := by decide +kernel
theorem dX5_seen_90 : decode cX5_seen 90 = .ok (.aload_n 0, 1) := by decide +kernel
theorem dX5_seen_91 : decode cX5_seen 91 = .ok (.getfield 31, 3) := by decide +kernel
theorem dX5_seen_94 : decode cX5_seen 94 = .ok (.aload_n 0, 1) := by decide +kernel
theorem dX5_seen_95 : decode cX5_seen 95 = .ok (.getfield 224, 3) := by decide +kernel
theorem dX5_seen_98 : decode cX5_seen 98 = .ok (.iload_n 2, 1) := by decide +kernel
theorem dX5_seen_99 : decode cX5_seen 99 = .ok (.iastore, 1) := by decide +kernel
theorem dX5_seen_100 : decode cX5_seen 100 = .ok (.aload_n 0, 1) := by decide +kernel
theorem dX5_seen_101 : decode cX5_seen 101 = .ok (.getfield 34, 3) := by decide +kernel
theorem dX5_seen_104 : decode cX5_seen 104 = .ok (.aload_n 0, 1) := by decide +kernel
theorem dX5_seen_105 : decode cX5_seen 105 = .ok (.getfield 224, 3) := by decide +kernel
theorem dX5_seen_108 : decode cX5_seen 108 = .ok (.iload_n 3, 1) := by decide +kernel
theorem dX5_seen_109 : decode cX5_seen 109 = .ok (.iastore, 1) := by decide +kernel
theorem dX5_seen_110 : decode cX5_seen 110 = .ok (.aload_n 0, 1) := by decide +kernel
theorem dX5_seen_111 : decode cX5_seen 111 = .ok (.dup, 1) := by decide +kernel
theorem dX5_seen_112 : decode cX5_seen 112 = .ok (.getfield 224, 3) := by decide +kernel
theorem dX5_seen_115 : decode cX5_seen 115 = .ok (.iconst 1, 1) := by decide +kernel
theorem dX5_seen_116 : decode cX5_seen 116 = .ok (.iadd, 1) := by decide +kernel
theorem dX5_seen_117 : decode cX5_seen 117 = .ok (.putfield 224, 3) := by decide +kernel
theorem dX5_seen_120 : decode cX5_seen 120 = .ok (.aload_n 0, 1) := by decide +kernel
theorem dX5_seen_121 : decode cX5_seen 121 = .ok (.getfield 224, 3) := by decide +kernel
theorem dX5_seen_124 : decode cX5_seen 124 = .ok (.ireturn, 1) := by decide +kernel
theorem dX5_forget_0 : decode cX5_forget 0 = .ok (.aload_n 0, 1) := by decide +kernel
theorem dX5_forget_1 : decode cX5_forget 1 = .ok (.getfield 224, 3) := by decide +kernel
theorem dX5_forget_4 : decode cX5_forget 4 = .ok (.istore_n 1, 1) := by decide +kernel
theorem dX5_forget_5 : decode cX5_forget 5 = .ok (.aload_n 0, 1) := by decide +kernel
theorem dX5_forget_6 : decode cX5_forget 6 = .ok (.iconst 0, 1) := by decide +kernel
theorem dX5_forget_7 : decode cX5_forget 7 = .ok (.putfield 224, 3) := by decide +kernel
theorem dX5_forget_10 : decode cX5_forget 10 = .ok (.iload_n 1, 1) := by decide +kernel
theorem dX5_forget_11 : decode cX5_forget 11 = .ok (.ireturn, 1) := by decide +kernel
theorem dX5_hollow_0 : decode cX5_hollow 0 = .ok (.sipush 4095, 3) := by decide +kernel
theorem dX5_hollow_3 : decode cX5_hollow 3 = .ok (.istore_n 1, 1) := by decide +kernel
theorem dX5_hollow_4 : decode cX5_hollow 4 = .ok (.iconst 0, 1) := by decide +kernel
theorem dX5_hollow_5 : decode cX5_hollow 5 = .ok (.istore_n 2, 1) := by decide +kernel
theorem dX5_hollow_6 : decode cX5_hollow 6 = .ok (.iload_n 2, 1) := by decide +kernel
theorem dX5_hollow_7 : decode cX5_hollow 7 = .ok (.aload_n 0, 1) := by decide +kernel
theorem dX5_hollow_8 : decode cX5_hollow 8 = .ok (.getfield 224, 3) := by decide +kernel
theorem dX5_hollow_11 : decode cX5_hollow 11 = .ok (.if_icmp .ge 70, 3) := by decide +kernel
theorem dX5_hollow_14 : decode cX5_hollow 14 = .ok (.aload_n 0, 1) := by decide +kernel
theorem dX5_hollow_15 : decode cX5_hollow 15 = .ok (.getfield 28, 3) := by decide +kernel
theorem dX5_hollow_18 : decode cX5_hollow 18 = .ok (.iload_n 2, 1) := by decide +kernel
theorem dX5_hollow_19 : decode cX5_hollow 19 = .ok (.iaload, 1) := by decide +kernel
theorem dX5_hollow_20 : decode cX5_hollow 20 = .ok (.aload_n 0, 1) := by decide +kernel
theorem dX5_hollow_21 : decode cX5_hollow 21 = .ok (.getfield 31, 3) := by decide +kernel
theorem dX5_hollow_24 : decode cX5_hollow 24 = .ok (.iload_n 2, 1) := by decide +kernel
theorem dX5_hollow_25 : decode cX5_hollow 25 = .ok (.iaload, 1) := by decide +kernel
theorem dX5_hollow_26 : decode cX5_hollow 26 = .ok (.ior, 1) := by decide +kernel
theorem dX5_hollow_27 : decode cX5_hollow 27 = .ok (.istore_n 3, 1) := by decide +kernel
theorem dX5_hollow_28 : decode cX5_hollow 28 = .ok (.iload_n 1, 1) := by decide +kernel
theorem dX5_hollow_29 : decode cX5_hollow 29 = .ok (.aload_n 0, 1) := by decide +kernel
theorem dX5_hollow_30 : decode cX5_hollow 30 = .ok (.getfield 34, 3) := by decide +kernel
theorem dX5_hollow_33 : decode cX5_hollow 33 = .ok (.iload_n 2, 1) := by decide +kernel
theorem dX5_hollow_34 : decode cX5_hollow 34 = .ok (.iaload, 1) := by decide +kernel
theorem dX5_hollow_35 : decode cX5_hollow 35 = .ok (.ifCond .ne 12, 3) := by decide +kernel
theorem dX5_hollow_38 : decode cX5_hollow 38 = .ok (.aload_n 0, 1) := by decide +kernel
theorem dX5_hollow_39 : decode cX5_hollow 39 = .ok (.getfield 28, 3) := by decide +kernel
theorem dX5_hollow_42 : decode cX5_hollow 42 = .ok (.iload_n 2, 1) := by decide +kernel
theorem dX5_hollow_43 : decode cX5_hollow 43 = .ok (.iaload, 1) := by decide +kernel
theorem dX5_hollow_44 : decode cX5_hollow 44 = .ok (.goto 29, 3) := by decide +kernel
theorem dX5_hollow_47 : decode cX5_hollow 47 = .ok (.aload_n 0, 1) := by decide +kernel
theorem dX5_hollow_48 : decode cX5_hollow 48 = .ok (.getfield 34, 3) := by decide +kernel
theorem dX5_hollow_51 : decode cX5_hollow 51 = .ok (.iload_n 2, 1) := by decide +kernel
theorem dX5_hollow_52 : decode cX5_hollow 52 = .ok (.iaload, 1) := by decide +kernel
theorem dX5_hollow_53 : decode cX5_hollow 53 = .ok (.iconst 1, 1) := by decide +kernel
theorem dX5_hollow_54 : decode cX5_hollow 54 = .ok (.if_icmp .ne 12, 3) := by decide +kernel
theorem dX5_hollow_57 : decode cX5_hollow 57 = .ok (.aload_n 0, 1) := by decide +kernel
theorem dX5_hollow_58 : decode cX5_hollow 58 = .ok (.getfield 31, 3) := by decide +kernel
theorem dX5_hollow_61 : decode cX5_hollow 61 = .ok (.iload_n 2, 1) := by decide +kernel
theorem dX5_hollow_62 : decode cX5_hollow 62 = .ok (.iaload, 1) := by decide +kernel
theorem dX5_hollow_63 : decode cX5_hollow 63 = .ok (.goto 10, 3) := by decide +kernel
theorem dX5_hollow_66 : decode cX5_hollow 66 = .ok (.sipush 4095, 3) := by decide +kernel
theorem dX5_hollow_69 : decode cX5_hollow 69 = .ok (.iload_n 3, 1) := by decide +kernel
theorem dX5_hollow_70 : decode cX5_hollow 70 = .ok (.iconst (-1), 1) := by decide +kernel
theorem dX5_hollow_71 : decode cX5_hollow 71 = .ok (.ixor, 1) := by decide +kernel
theorem dX5_hollow_72 : decode cX5_hollow 72 = .ok (.iand, 1) := by decide +kernel
theorem dX5_hollow_73 : decode cX5_hollow 73 = .ok (.iand, 1) := by decide +kernel
theorem dX5_hollow_74 : decode cX5_hollow 74 = .ok (.istore_n 1, 1) := by decide +kernel
theorem dX5_hollow_75 : decode cX5_hollow 75 = .ok (.iinc 2 1, 3) := by decide +kernel
theorem dX5_hollow_78 : decode cX5_hollow 78 = .ok (.goto (-72), 3) := by decide +kernel
theorem dX5_hollow_81 : decode cX5_hollow 81 = .ok (.iload_n 1, 1) := by decide +kernel
theorem dX5_hollow_82 : decode cX5_hollow 82 = .ok (.ireturn, 1) := by decide +kernel
theorem dX5_worse_0 : decode cX5_worse 0 = .ok (.iload_n 1, 1) := by decide +kernel
theorem dX5_worse_1 : decode cX5_worse 1 = .ok (.iload_n 0, 1) := by decide +kernel
theorem dX5_worse_2 : decode cX5_worse 2 = .ok (.iconst 2, 1) := by decide +kernel
theorem dX5_worse_3 : decode cX5_worse 3 = .ok (.iload_n 1, 1) := by decide +kernel
theorem dX5_worse_4 : decode cX5_worse 4 = .ok (.imul, 1) := by decide +kernel
theorem dX5_worse_5 : decode cX5_worse 5 = .ok (.isub, 1) := by decide +kernel
theorem dX5_worse_6 : decode cX5_worse 6 = .ok (.if_icmp .le 7, 3) := by decide +kernel
theorem dX5_worse_9 : decode cX5_worse 9 = .ok (.iload_n 1, 1) := by decide +kernel
theorem dX5_worse_10 : decode cX5_worse 10 = .ok (.goto 8, 3) := by decide +kernel
theorem dX5_worse_13 : decode cX5_worse 13 = .ok (.iload_n 0, 1) := by decide +kernel
theorem dX5_worse_14 : decode cX5_worse 14 = .ok (.iconst 2, 1) := by decide +kernel
theorem dX5_worse_15 : decode cX5_worse 15 = .ok (.iload_n 1, 1) := by decide +kernel
theorem dX5_worse_16 : decode cX5_worse 16 = .ok (.imul, 1) := by decide +kernel
theorem dX5_worse_17 : decode cX5_worse 17 = .ok (.isub, 1) := by decide +kernel
theorem dX5_worse_18 : decode cX5_worse 18 = .ok (.ireturn, 1) := by decide +kernel
theorem dX5_turnsFor_0 : decode cX5_turnsFor 0 = .ok (.iconst 0, 1) := by decide +kernel
theorem dX5_turnsFor_1 : decode cX5_turnsFor 1 = .ok (.istore_n 1, 1) := by decide +kernel
theorem dX5_turnsFor_2 : decode cX5_turnsFor 2 = .ok (.iconst 1, 1) := by decide +kernel
theorem dX5_turnsFor_3 : decode cX5_turnsFor 3 = .ok (.istore_n 2, 1) := by decide +kernel
theorem dX5_turnsFor_4 : decode cX5_turnsFor 4 = .ok (.iload_n 2, 1) := by decide +kernel
theorem dX5_turnsFor_5 : decode cX5_turnsFor 5 = .ok (.iload_n 0, 1) := by decide +kernel
theorem dX5_turnsFor_6 : decode cX5_turnsFor 6 = .ok (.if_icmp .ge 13, 3) := by decide +kernel
theorem dX5_turnsFor_9 : decode cX5_turnsFor 9 = .ok (.iinc 1 1, 3) := by decide +kernel
theorem dX5_turnsFor_12 : decode cX5_turnsFor 12 = .ok (.iload_n 2, 1) := by decide +kernel
theorem dX5_turnsFor_13 : decode cX5_turnsFor 13 = .ok (.iconst 3, 1) := by decide +kernel
theorem dX5_turnsFor_14 : decode cX5_turnsFor 14 = .ok (.imul, 1) := by decide +kernel
theorem dX5_turnsFor_15 : decode cX5_turnsFor 15 = .ok (.istore_n 2, 1) := by decide +kernel
theorem dX5_turnsFor_16 : decode cX5_turnsFor 16 = .ok (.goto (-12), 3) := by decide +kernel
theorem dX5_turnsFor_19 : decode cX5_turnsFor 19 = .ok (.iload_n 1, 1) := by decide +kernel
theorem dX5_turnsFor_20 : decode cX5_turnsFor 20 = .ok (.ireturn, 1) := by decide +kernel
set_option maxRecDepth 20000 in
theorem ggX5_lay_X5_in : GoodIn wsX5_lay wsX5_in := goodIn_r _ [5] (by decide +kernel) (by decide +kernel)
set_option maxRecDepth 20000 in
theorem gX5_lay_X5_in : GoodIn wsX5_lay (va_wsS RX5 71 yX5_in wsX5_in) := goodIn_app (goodIn_of _ (by decide +kernel)) ggX5_lay_X5_in
set_option maxRecDepth 20000 in
theorem ggX5_lay_X5_hollow : GoodIn wsX5_lay wsX5_hollow := goodIn_r _ [9, 10, 11, 12, 13, 23, 24, 25, 26, 27, 28, 29, 30, 31, 32, 33, 34, 35, 36, 37, 38, 39, 40, 41, 42, 43, 44, 45, 46, 47, 48, 49, 50, 51, 52, 53, 54, 55] (by decide +kernel) (by decide +kernel)
set_option maxRecDepth 20000 in
theorem gX5_lay_X5_hollow : GoodIn wsX5_lay (wsV RX5 227 RX5 yX5_hollow wsX5_hollow) := goodIn_app (goodIn_of _ (by decide +kernel)) ggX5_lay_X5_hollow
set_option maxRecDepth 20000 in
theorem ggX5_lay_X5_ones : GoodIn wsX5_lay wsX5_ones := goodIn_r _ [16] (by decide +kernel) (by decide +kernel)
set_option maxRecDepth 20000 in
theorem gX5_lay_X5_ones : GoodIn wsX5_lay (va_wsS RX5 89 yX5_ones wsX5_ones) := goodIn_app (goodIn_of _ (by decide +kernel)) ggX5_lay_X5_ones
set_option maxRecDepth 20000 in
theorem ggX5_lay_X5_turnsFor : GoodIn wsX5_lay wsX5_turnsFor := goodIn_r _ [19] (by decide +kernel) (by decide +kernel)
set_option maxRecDepth 20000 in
theorem gX5_lay_X5_turnsFor : GoodIn wsX5_lay (va_wsS RX5 230 yX5_turnsFor wsX5_turnsFor) := goodIn_app (goodIn_of _ (by decide +kernel)) ggX5_lay_X5_turnsFor
set_option maxRecDepth 20000 in
theorem ggX5_lay_X5_worse : GoodIn wsX5_lay wsX5_worse := goodIn_r _ [22] (by decide +kernel) (by decide +kernel)
set_option maxRecDepth 20000 in
theorem gX5_lay_X5_worse : GoodIn wsX5_lay (va_wsS RX5 233 yX5_worse wsX5_worse) := goodIn_app (goodIn_of _ (by decide +kernel)) ggX5_lay_X5_worse
theorem dX5_lay_0 : decode cX5_lay 0 = .ok (.iload_n 1, 1) := by decide +kernel
theorem dX5_lay_1 : decode cX5_lay 1 = .ok (.i2l, 1) := by decide +kernel
theorem dX5_lay_2 : decode cX5_lay 2 = .ok (.lconst 0, 1) := by decide +kernel
theorem dX5_lay_3 : decode cX5_lay 3 = .ok (.ldc2_w 83, 3) := by decide +kernel
theorem dX5_lay_6 : decode cX5_lay 6 = .ok (.invokestatic 71, 3) := by decide +kernel
theorem dX5_lay_9 : decode cX5_lay 9 = .ok (.ifCond .ne 6, 3) := by decide +kernel
theorem dX5_lay_12 : decode cX5_lay 12 = .ok (.bipush (-2), 2) := by decide +kernel
theorem dX5_lay_14 : decode cX5_lay 14 = .ok (.ireturn, 1) := by decide +kernel
theorem dX5_lay_15 : decode cX5_lay 15 = .ok (.aload_n 0, 1) := by decide +kernel
theorem dX5_lay_16 : decode cX5_lay 16 = .ok (.invokevirtual 227, 3) := by decide +kernel
theorem dX5_lay_19 : decode cX5_lay 19 = .ok (.invokestatic 89, 3) := by decide +kernel
theorem dX5_lay_22 : decode cX5_lay 22 = .ok (.istore_n 2, 1) := by decide +kernel
theorem dX5_lay_23 : decode cX5_lay 23 = .ok (.iload_n 1, 1) := by decide +kernel
theorem dX5_lay_24 : decode cX5_lay 24 = .ok (.iconst 2, 1) := by decide +kernel
theorem dX5_lay_25 : decode cX5_lay 25 = .ok (.if_icmp .ne 8, 3) := by decide +kernel
theorem dX5_lay_28 : decode cX5_lay 28 = .ok (.iload_n 2, 1) := by decide +kernel
theorem dX5_lay_29 : decode cX5_lay 29 = .ok (.invokestatic 230, 3) := by decide +kernel
theorem dX5_lay_32 : decode cX5_lay 32 = .ok (.ireturn, 1) := by decide +kernel
theorem dX5_lay_33 : decode cX5_lay 33 = .ok (.iload_n 2, 1) := by decide +kernel
theorem dX5_lay_34 : decode cX5_lay 34 = .ok (.ifCond .ne 6, 3) := by decide +kernel
theorem dX5_lay_37 : decode cX5_lay 37 = .ok (.bipush (-6), 2) := by decide +kernel
theorem dX5_lay_39 : decode cX5_lay 39 = .ok (.ireturn, 1) := by decide +kernel
theorem dX5_lay_40 : decode cX5_lay 40 = .ok (.iconst 0, 1) := by decide +kernel
theorem dX5_lay_41 : decode cX5_lay 41 = .ok (.istore_n 3, 1) := by decide +kernel
theorem dX5_lay_42 : decode cX5_lay 42 = .ok (.iconst 1, 1) := by decide +kernel
theorem dX5_lay_43 : decode cX5_lay 43 = .ok (.istore 4, 2) := by decide +kernel
theorem dX5_lay_45 : decode cX5_lay 45 = .ok (.iconst 2, 1) := by decide +kernel
theorem dX5_lay_46 : decode cX5_lay 46 = .ok (.iload 4, 2) := by decide +kernel
theorem dX5_lay_48 : decode cX5_lay 48 = .ok (.imul, 1) := by decide +kernel
theorem dX5_lay_49 : decode cX5_lay 49 = .ok (.iload_n 2, 1) := by decide +kernel
theorem dX5_lay_50 : decode cX5_lay 50 = .ok (.if_icmp .gt 30, 3) := by decide +kernel
theorem dX5_lay_53 : decode cX5_lay 53 = .ok (.iload_n 2, 1) := by decide +kernel
theorem dX5_lay_54 : decode cX5_lay 54 = .ok (.iload 4, 2) := by decide +kernel
theorem dX5_lay_56 : decode cX5_lay 56 = .ok (.invokestatic 233, 3) := by decide +kernel
theorem dX5_lay_59 : decode cX5_lay 59 = .ok (.iload_n 2, 1) := by decide +kernel
theorem dX5_lay_60 : decode cX5_lay 60 = .ok (.iload_n 3, 1) := by decide +kernel
theorem dX5_lay_61 : decode cX5_lay 61 = .ok (.invokestatic 233, 3) := by decide +kernel
theorem dX5_lay_64 : decode cX5_lay 64 = .ok (.if_icmp .ge 8, 3) := by decide +kernel
theorem dX5_lay_67 : decode cX5_lay 67 = .ok (.iload 4, 2) := by decide +kernel
theorem dX5_lay_69 : decode cX5_lay 69 = .ok (.goto 4, 3) := by decide +kernel
theorem dX5_lay_72 : decode cX5_lay 72 = .ok (.iload_n 3, 1) := by decide +kernel
theorem dX5_lay_73 : decode cX5_lay 73 = .ok (.istore_n 3, 1) := by decide +kernel
theorem dX5_lay_74 : decode cX5_lay 74 = .ok (.iinc 4 1, 3) := by decide +kernel
theorem dX5_lay_77 : decode cX5_lay 77 = .ok (.goto (-32), 3) := by decide +kernel
theorem dX5_lay_80 : decode cX5_lay 80 = .ok (.iload_n 1, 1) := by decide +kernel
theorem dX5_lay_81 : decode cX5_lay 81 = .ok (.ifCond .ne 7, 3) := by decide +kernel
theorem dX5_lay_84 : decode cX5_lay 84 = .ok (.iload_n 3, 1) := by decide +kernel
theorem dX5_lay_85 : decode cX5_lay 85 = .ok (.goto 8, 3) := by decide +kernel
theorem dX5_lay_88 : decode cX5_lay 88 = .ok (.iload_n 2, 1) := by decide +kernel
theorem dX5_lay_89 : decode cX5_lay 89 = .ok (.iload_n 3, 1) := by decide +kernel
theorem dX5_lay_90 : decode cX5_lay 90 = .ok (.invokestatic 233, 3) := by decide +kernel
theorem dX5_lay_93 : decode cX5_lay 93 = .ok (.ireturn, 1) := by decide +kernel
theorem dX5_lowest_0 : decode cX5_lowest 0 = .ok (.lload_n 2, 1) := by decide +kernel
theorem dX5_lowest_1 : decode cX5_lowest 1 = .ok (.lstore 5, 2) := by decide +kernel
theorem dX5_lowest_3 : decode cX5_lowest 3 = .ok (.lload_n 0, 1) := by decide +kernel
theorem dX5_lowest_4 : decode cX5_lowest 4 = .ok (.lstore 7, 2) := by decide +kernel
theorem dX5_lowest_6 : decode cX5_lowest 6 = .ok (.lload 7, 2) := by decide +kernel
theorem dX5_lowest_8 : decode cX5_lowest 8 = .ok (.lconst 0, 1) := by decide +kernel
theorem dX5_lowest_9 : decode cX5_lowest 9 = .ok (.lcmp, 1) := by decide +kernel
theorem dX5_lowest_10 : decode cX5_lowest 10 = .ok (.ifCond .eq 21, 3) := by decide +kernel
theorem dX5_lowest_13 : decode cX5_lowest 13 = .ok (.lload 5, 2) := by decide +kernel
theorem dX5_lowest_15 : decode cX5_lowest 15 = .ok (.lload 7, 2) := by decide +kernel
theorem dX5_lowest_17 : decode cX5_lowest 17 = .ok (.lrem, 1) := by decide +kernel
theorem dX5_lowest_18 : decode cX5_lowest 18 = .ok (.lstore 9, 2) := by decide +kernel
theorem dX5_lowest_20 : decode cX5_lowest 20 = .ok (.lload 7, 2) := by decide +kernel
theorem dX5_lowest_22 : decode cX5_lowest 22 = .ok (.lstore 5, 2) := by decide +kernel
theorem dX5_lowest_24 : decode cX5_lowest 24 = .ok (.lload 9, 2) := by decide +kernel
theorem dX5_lowest_26 : decode cX5_lowest 26 = .ok (.lstore 7, 2) := by decide +kernel
theorem dX5_lowest_28 : decode cX5_lowest 28 = .ok (.goto (-22), 3) := by decide +kernel
theorem dX5_lowest_31 : decode cX5_lowest 31 = .ok (.iload 4, 2) := by decide +kernel
theorem dX5_lowest_33 : decode cX5_lowest 33 = .ok (.ifCond .ne 10, 3) := by decide +kernel
theorem dX5_lowest_36 : decode cX5_lowest 36 = .ok (.lload_n 0, 1) := by decide +kernel
theorem dX5_lowest_37 : decode cX5_lowest 37 = .ok (.lload 5, 2) := by decide +kernel
theorem dX5_lowest_39 : decode cX5_lowest 39 = .ok (.ldiv, 1) := by decide +kernel
theorem dX5_lowest_40 : decode cX5_lowest 40 = .ok (.goto 7, 3) := by decide +kernel
theorem dX5_lowest_43 : decode cX5_lowest 43 = .ok (.lload_n 2, 1) := by decide +kernel
theorem dX5_lowest_44 : decode cX5_lowest 44 = .ok (.lload 5, 2) := by decide +kernel
theorem dX5_lowest_46 : decode cX5_lowest 46 = .ok (.ldiv, 1) := by decide +kernel
theorem dX5_lowest_47 : decode cX5_lowest 47 = .ok (.lreturn, 1) := by decide +kernel
set_option maxRecDepth 20000 in
theorem ggX5_weather_X5_in : GoodIn wsX5_weather wsX5_in := goodIn_r _ [10] (by decide +kernel) (by decide +kernel)
set_option maxRecDepth 20000 in
theorem gX5_weather_X5_in : GoodIn wsX5_weather (va_wsS RX5 71 yX5_in wsX5_in) := goodIn_app (goodIn_of _ (by decide +kernel)) ggX5_weather_X5_in
set_option maxRecDepth 20000 in
theorem ggX5_weather_X5_lowest : GoodIn wsX5_weather wsX5_lowest := goodIn_r _ [13] (by decide +kernel) (by decide +kernel)
set_option maxRecDepth 20000 in
theorem gX5_weather_X5_lowest : GoodIn wsX5_weather (va_wsS RX5 242 yX5_lowest wsX5_lowest) := goodIn_app (goodIn_of _ (by decide +kernel)) ggX5_weather_X5_lowest
theorem dX5_weather_0 : decode cX5_weather 0 = .ok (.iload_n 1, 1) := by decide +kernel
theorem dX5_weather_1 : decode cX5_weather 1 = .ok (.i2l, 1) := by decide +kernel
theorem dX5_weather_2 : decode cX5_weather 2 = .ok (.lconst 0, 1) := by decide +kernel
theorem dX5_weather_3 : decode cX5_weather 3 = .ok (.ldc2_w 236, 3) := by decide +kernel
theorem dX5_weather_6 : decode cX5_weather 6 = .ok (.invokestatic 71, 3) := by decide +kernel
theorem dX5_weather_9 : decode cX5_weather 9 = .ok (.ifCond .eq 49, 3) := by decide +kernel
theorem dX5_weather_12 : decode cX5_weather 12 = .ok (.iload_n 2, 1) := by decide +kernel
theorem dX5_weather_13 : decode cX5_weather 13 = .ok (.i2l, 1) := by decide +kernel
theorem dX5_weather_14 : decode cX5_weather 14 = .ok (.lconst 0, 1) := by decide +kernel
theorem dX5_weather_15 : decode cX5_weather 15 = .ok (.ldc2_w 198, 3) := by decide +kernel
theorem dX5_weather_18 : decode cX5_weather 18 = .ok (.invokestatic 71, 3) := by decide +kernel
theorem dX5_weather_21 : decode cX5_weather 21 = .ok (.ifCond .eq 37, 3) := by decide +kernel
theorem dX5_weather_24 : decode cX5_weather 24 = .ok (.iload_n 3, 1) := by decide +kernel
theorem dX5_weather_25 : decode cX5_weather 25 = .ok (.i2l, 1) := by decide +kernel
theorem dX5_weather_26 : decode cX5_weather 26 = .ok (.lconst 0, 1) := by decide +kernel
theorem dX5_weather_27 : decode cX5_weather 27 = .ok (.ldc2_w 238, 3) := by decide +kernel
theorem dX5_weather_30 : decode cX5_weather 30 = .ok (.invokestatic 71, 3) := by decide +kernel
theorem dX5_weather_33 : decode cX5_weather 33 = .ok (.ifCond .eq 25, 3) := by decide +kernel
theorem dX5_weather_36 : decode cX5_weather 36 = .ok (.iload 4, 2) := by decide +kernel
theorem dX5_weather_38 : decode cX5_weather 38 = .ok (.i2l, 1) := by decide +kernel
theorem dX5_weather_39 : decode cX5_weather 39 = .ok (.lconst 0, 1) := by decide +kernel
theorem dX5_weather_40 : decode cX5_weather 40 = .ok (.lconst 1, 1) := by decide +kernel
theorem dX5_weather_41 : decode cX5_weather 41 = .ok (.invokestatic 71, 3) := by decide +kernel
theorem dX5_weather_44 : decode cX5_weather 44 = .ok (.ifCond .eq 14, 3) := by decide +kernel
theorem dX5_weather_47 : decode cX5_weather 47 = .ok (.iload 5, 2) := by decide +kernel
theorem dX5_weather_49 : decode cX5_weather 49 = .ok (.i2l, 1) := by decide +kernel
theorem dX5_weather_50 : decode cX5_weather 50 = .ok (.lconst 0, 1) := by decide +kernel
theorem dX5_weather_51 : decode cX5_weather 51 = .ok (.lconst 1, 1) := by decide +kernel
theorem dX5_weather_52 : decode cX5_weather 52 = .ok (.invokestatic 71, 3) := by decide +kernel
theorem dX5_weather_55 : decode cX5_weather 55 = .ok (.ifCond .ne 7, 3) := by decide +kernel
theorem dX5_weather_58 : decode cX5_weather 58 = .ok (.ldc2_w 240, 3) := by decide +kernel
theorem dX5_weather_61 : decode cX5_weather 61 = .ok (.lreturn, 1) := by decide +kernel
theorem dX5_weather_62 : decode cX5_weather 62 = .ok (.iconst 0, 1) := by decide +kernel
theorem dX5_weather_63 : decode cX5_weather 63 = .ok (.istore 6, 2) := by decide +kernel
theorem dX5_weather_65 : decode cX5_weather 65 = .ok (.iload 6, 2) := by decide +kernel
theorem dX5_weather_67 : decode cX5_weather 67 = .ok (.bipush 50, 2) := by decide +kernel
