theorem dX5_set_25 : decode cX5_set 25 = .ok (.bipush (-3), 2) := by decide +kernel
theorem dX5_set_27 : decode cX5_set 27 = .ok (.ireturn, 1) := by decide +kernel
theorem dX5_set_28 : decode cX5_set 28 = .ok (.aload_n 0, 1) := by decide +kernel
theorem dX5_set_29 : decode cX5_set 29 = .ok (.getfield 10, 3) := by decide +kernel
theorem dX5_set_32 : decode cX5_set 32 = .ok (.iload_n 1, 1) := by decide +kernel
theorem dX5_set_33 : decode cX5_set 33 = .ok (.invokevirtual 107, 3) := by decide +kernel
theorem dX5_set_36 : decode cX5_set 36 = .ok (.istore_n 3, 1) := by decide +kernel
theorem dX5_set_37 : decode cX5_set 37 = .ok (.aload_n 0, 1) := by decide +kernel
theorem dX5_set_38 : decode cX5_set 38 = .ok (.getfield 10, 3) := by decide +kernel
theorem dX5_set_41 : decode cX5_set 41 = .ok (.iload_n 1, 1) := by decide +kernel
theorem dX5_set_42 : decode cX5_set 42 = .ok (.iload_n 2, 1) := by decide +kernel
theorem dX5_set_43 : decode cX5_set 43 = .ok (.invokevirtual 110, 3) := by decide +kernel
theorem dX5_set_46 : decode cX5_set 46 = .ok (.iload_n 3, 1) := by decide +kernel
theorem dX5_set_47 : decode cX5_set 47 = .ok (.ireturn, 1) := by decide +kernel
set_option maxRecDepth 20000 in
theorem ggX5_steps_X0_personAt : GoodIn wsX5_steps wsX0_personAt := goodIn_r _ [7, 8, 9, 25, 26, 27, 28, 29, 30, 31, 32, 33, 34] (by decide +kernel) (by decide +kernel)
set_option maxRecDepth 20000 in
theorem gX5_steps_X0_personAt : GoodIn wsX5_steps (wsV RX5 78 RX0 yX0_personAt wsX0_personAt) := goodIn_app (goodIn_of _ (by decide +kernel)) ggX5_steps_X0_personAt
set_option maxRecDepth 20000 in
theorem ggX5_steps_X5_isStepCount : GoodIn wsX5_steps wsX5_isStepCount := goodIn_r _ [13] (by decide +kernel) (by decide +kernel)
set_option maxRecDepth 20000 in
theorem gX5_steps_X5_isStepCount : GoodIn wsX5_steps (va_wsS RX5 114 yX5_isStepCount wsX5_isStepCount) := goodIn_app (goodIn_of _ (by decide +kernel)) ggX5_steps_X5_isStepCount
theorem dX5_steps_0 : decode cX5_steps 0 = .ok (.aload_n 0, 1) := by decide +kernel
theorem dX5_steps_1 : decode cX5_steps 1 = .ok (.getfield 10, 3) := by decide +kernel
theorem dX5_steps_4 : decode cX5_steps 4 = .ok (.iload_n 1, 1) := by decide +kernel
theorem dX5_steps_5 : decode cX5_steps 5 = .ok (.invokevirtual 78, 3) := by decide +kernel
theorem dX5_steps_8 : decode cX5_steps 8 = .ok (.astore_n 3, 1) := by decide +kernel
theorem dX5_steps_9 : decode cX5_steps 9 = .ok (.aload_n 3, 1) := by decide +kernel
theorem dX5_steps_10 : decode cX5_steps 10 = .ok (.ifnull 10, 3) := by decide +kernel
theorem dX5_steps_13 : decode cX5_steps 13 = .ok (.iload_n 2, 1) := by decide +kernel
theorem dX5_steps_14 : decode cX5_steps 14 = .ok (.invokestatic 114, 3) := by decide +kernel
theorem dX5_steps_17 : decode cX5_steps 17 = .ok (.ifCond .ne 5, 3) := by decide +kernel
theorem dX5_steps_20 : decode cX5_steps 20 = .ok (.iconst (-1), 1) := by decide +kernel
theorem dX5_steps_21 : decode cX5_steps 21 = .ok (.ireturn, 1) := by decide +kernel
theorem dX5_steps_22 : decode cX5_steps 22 = .ok (.aload_n 3, 1) := by decide +kernel
theorem dX5_steps_23 : decode cX5_steps 23 = .ok (.getfield 87, 3) := by decide +kernel
theorem dX5_steps_26 : decode cX5_steps 26 = .ok (.istore 4, 2) := by decide +kernel
theorem dX5_steps_28 : decode cX5_steps 28 = .ok (.aload_n 3, 1) := by decide +kernel
theorem dX5_steps_29 : decode cX5_steps 29 = .ok (.iload_n 2, 1) := by decide +kernel
theorem dX5_steps_30 : decode cX5_steps 30 = .ok (.putfield 87, 3) := by decide +kernel
theorem dX5_steps_33 : decode cX5_steps 33 = .ok (.iload 4, 2) := by decide +kernel
theorem dX5_steps_35 : decode cX5_steps 35 = .ok (.ireturn, 1) := by decide +kernel
set_option maxRecDepth 20000 in
theorem ggX5_holds_X0_personAt : GoodIn wsX5_holds wsX0_personAt := goodIn_r _ [6, 7, 8, 72, 73, 74, 75, 76, 77, 78, 79, 80, 81] (by decide +kernel) (by decide +kernel)
set_option maxRecDepth 20000 in
theorem gX5_holds_X0_personAt : GoodIn wsX5_holds (wsV RX5 78 RX0 yX0_personAt wsX0_personAt) := goodIn_app (goodIn_of _ (by decide +kernel)) ggX5_holds_X0_personAt
set_option maxRecDepth 20000 in
theorem ggX5_holds_X1_holdsByDraw : GoodIn wsX5_holds wsX1_holdsByDraw := goodIn_r _ [13, 14, 82, 83, 84, 85] (by decide +kernel) (by decide +kernel)
set_option maxRecDepth 20000 in
theorem gX5_holds_X1_holdsByDraw : GoodIn wsX5_holds (wsV RX5 118 RX1 yX1_holdsByDraw wsX1_holdsByDraw) := goodIn_app (goodIn_of _ (by decide +kernel)) ggX5_holds_X1_holdsByDraw
set_option maxRecDepth 20000 in
theorem ggX5_holds_X0_heldBy : GoodIn wsX5_holds wsX0_heldBy := goodIn_r _ [18, 19, 20, 21, 22, 23, 24, 25, 26, 5, 27, 28, 29, 30, 31, 32, 33, 34, 35, 36, 37, 38, 39, 40, 41, 42, 43, 44, 45, 46, 47, 48, 49, 50, 51, 52, 53, 54, 55, 56, 57, 58, 59, 60, 61, 62, 63, 64, 7, 82, 83, 84, 85, 72, 73, 74, 75, 76, 77, 78, 79, 80, 81] (by decide +kernel) (by decide +kernel)
set_option maxRecDepth 20000 in
theorem gX5_holds_X0_heldBy : GoodIn wsX5_holds (wsV RX5 121 RX0 yX0_heldBy wsX0_heldBy) := goodIn_app (goodIn_of _ (by decide +kernel)) ggX5_holds_X0_heldBy
theorem dX5_holds_0 : decode cX5_holds 0 = .ok (.aload_n 0, 1) := by decide +kernel
theorem dX5_holds_1 : decode cX5_holds 1 = .ok (.getfield 10, 3) := by decide +kernel
theorem dX5_holds_4 : decode cX5_holds 4 = .ok (.iload_n 1, 1) := by decide +kernel
theorem dX5_holds_5 : decode cX5_holds 5 = .ok (.invokevirtual 78, 3) := by decide +kernel
theorem dX5_holds_8 : decode cX5_holds 8 = .ok (.astore_n 2, 1) := by decide +kernel
theorem dX5_holds_9 : decode cX5_holds 9 = .ok (.aload_n 2, 1) := by decide +kernel
theorem dX5_holds_10 : decode cX5_holds 10 = .ok (.ifnonnull 5, 3) := by decide +kernel
theorem dX5_holds_13 : decode cX5_holds 13 = .ok (.iconst (-1), 1) := by decide +kernel
theorem dX5_holds_14 : decode cX5_holds 14 = .ok (.ireturn, 1) := by decide +kernel
theorem dX5_holds_15 : decode cX5_holds 15 = .ok (.aload_n 2, 1) := by decide +kernel
theorem dX5_holds_16 : decode cX5_holds 16 = .ok (.invokevirtual 118, 3) := by decide +kernel
theorem dX5_holds_19 : decode cX5_holds 19 = .ok (.ifCond .eq 8, 3) := by decide +kernel
theorem dX5_holds_22 : decode cX5_holds 22 = .ok (.bipush (-3), 2) := by decide +kernel
theorem dX5_holds_24 : decode cX5_holds 24 = .ok (.goto 11, 3) := by decide +kernel
theorem dX5_holds_27 : decode cX5_holds 27 = .ok (.aload_n 0, 1) := by decide +kernel
theorem dX5_holds_28 : decode cX5_holds 28 = .ok (.getfield 10, 3) := by decide +kernel
theorem dX5_holds_31 : decode cX5_holds 31 = .ok (.aload_n 2, 1) := by decide +kernel
theorem dX5_holds_32 : decode cX5_holds 32 = .ok (.invokevirtual 121, 3) := by decide +kernel
theorem dX5_holds_35 : decode cX5_holds 35 = .ok (.ireturn, 1) := by decide +kernel
set_option maxRecDepth 20000 in
theorem ggX5_round_X0_play : GoodIn wsX5_round wsX0_play := goodIn_r _ [8, 9, 10, 11, 12, 13, 14, 15, 16, 17, 18, 19, 20, 21, 22, 23, 24, 25, 26, 27, 28, 29, 30, 31, 32, 7, 33, 34, 35, 36, 37, 38, 39, 40, 41, 42, 43, 44, 45, 46, 47, 48, 49, 50, 51, 52, 53, 54, 55, 56, 57, 58, 59, 60, 61, 62, 63, 64, 65, 66, 67, 68, 69, 70, 71, 72, 73, 74, 75, 76, 77, 78, 79, 80, 81, 82, 83, 84, 85, 86, 87, 88, 89, 90, 91, 92, 93, 94, 95, 96, 97, 98, 106, 107, 108, 109, 110, 111, 112, 113, 114, 115, 116, 117, 118, 119, 120, 121, 122] (by decide +kernel) (by decide +kernel)
set_option maxRecDepth 20000 in
theorem gX5_round_X0_play : GoodIn wsX5_round (wsV RX5 128 RX0 yX0_play wsX0_play) := goodIn_app (goodIn_of _ (by decide +kernel)) ggX5_round_X0_play
theorem dX5_round_0 : decode cX5_round 0 = .ok (.aload_n 0, 1) := by decide +kernel
theorem dX5_round_1 : decode cX5_round 1 = .ok (.getfield 10, 3) := by decide +kernel
theorem dX5_round_4 : decode cX5_round 4 = .ok (.getfield 93, 3) := by decide +kernel
theorem dX5_round_7 : decode cX5_round 7 = .ok (.bipush 99, 2) := by decide +kernel
theorem dX5_round_9 : decode cX5_round 9 = .ok (.if_icmp .lt 6, 3) := by decide +kernel
theorem dX5_round_12 : decode cX5_round 12 = .ok (.bipush (-2), 2) := by decide +kernel
theorem dX5_round_14 : decode cX5_round 14 = .ok (.ireturn, 1) := by decide +kernel
theorem dX5_round_15 : decode cX5_round 15 = .ok (.aload_n 0, 1) := by decide +kernel
theorem dX5_round_16 : decode cX5_round 16 = .ok (.getfield 10, 3) := by decide +kernel
theorem dX5_round_19 : decode cX5_round 19 = .ok (.getfield 125, 3) := by decide +kernel
theorem dX5_round_22 : decode cX5_round 22 = .ok (.ifCond .ne 6, 3) := by decide +kernel
theorem dX5_round_25 : decode cX5_round 25 = .ok (.bipush (-3), 2) := by decide +kernel
theorem dX5_round_27 : decode cX5_round 27 = .ok (.ireturn, 1) := by decide +kernel
theorem dX5_round_28 : decode cX5_round 28 = .ok (.aload_n 0, 1) := by decide +kernel
theorem dX5_round_29 : decode cX5_round 29 = .ok (.getfield 10, 3) := by decide +kernel
theorem dX5_round_32 : decode cX5_round 32 = .ok (.invokevirtual 128, 3) := by decide +kernel
theorem dX5_round_35 : decode cX5_round 35 = .ok (.aload_n 0, 1) := by decide +kernel
theorem dX5_round_36 : decode cX5_round 36 = .ok (.getfield 10, 3) := by decide +kernel
theorem dX5_round_39 : decode cX5_round 39 = .ok (.getfield 93, 3) := by decide +kernel
theorem dX5_round_42 : decode cX5_round 42 = .ok (.ireturn, 1) := by decide +kernel
set_option maxRecDepth 20000 in
theorem ggX5_anew_X0_forgetRounds : GoodIn wsX5_anew wsX0_forgetRounds := goodIn_r _ [7, 8, 9, 10, 11, 12, 13, 14, 15, 16, 17, 18, 19, 20, 21, 22, 23, 24, 25, 26, 34, 35, 36, 37, 38, 39, 40, 41, 42, 43, 44, 45, 46] (by decide +kernel) (by decide +kernel)
set_option maxRecDepth 20000 in
theorem gX5_anew_X0_forgetRounds : GoodIn wsX5_anew (wsV RX5 131 RX0 yX0_forgetRounds wsX0_forgetRounds) := goodIn_app (goodIn_of _ (by decide +kernel)) ggX5_anew_X0_forgetRounds
theorem dX5_anew_0 : decode cX5_anew 0 = .ok (.aload_n 0, 1) := by decide +kernel
theorem dX5_anew_1 : decode cX5_anew 1 = .ok (.getfield 10, 3) := by decide +kernel
theorem dX5_anew_4 : decode cX5_anew 4 = .ok (.invokevirtual 131, 3) := by decide +kernel
theorem dX5_anew_7 : decode cX5_anew 7 = .ok (.aload_n 0, 1) := by decide +kernel
theorem dX5_anew_8 : decode cX5_anew 8 = .ok (.getfield 10, 3) := by decide +kernel
theorem dX5_anew_11 : decode cX5_anew 11 = .ok (.getfield 125, 3) := by decide +kernel
theorem dX5_anew_14 : decode cX5_anew 14 = .ok (.ireturn, 1) := by decide +kernel
set_option maxRecDepth 20000 in
theorem ggX5_last_X0_countWinners : GoodIn wsX5_last wsX0_countWinners := goodIn_r _ [9, 10, 11, 12, 13, 8, 14, 15, 16, 17, 18, 19, 20, 21, 22, 23, 24, 25, 26, 27, 28, 29, 30, 31, 32, 33, 34, 35, 36, 37, 38, 39, 40, 41, 60, 61, 62, 50, 51, 52, 53, 54, 55, 56, 57, 58, 59] (by decide +kernel) (by decide +kernel)
set_option maxRecDepth 20000 in
theorem gX5_last_X0_countWinners : GoodIn wsX5_last (wsV RX5 137 RX0 yX0_countWinners wsX0_countWinners) := goodIn_app (goodIn_of _ (by decide +kernel)) ggX5_last_X0_countWinners
set_option maxRecDepth 20000 in
theorem ggX5_last_X0_firstWinner : GoodIn wsX5_last wsX0_firstWinner := goodIn_r _ [14, 15, 10, 16, 17, 18, 8, 19, 20, 21, 22, 23, 24, 25, 26, 27, 28, 29, 30, 31, 32, 33, 34, 35, 36, 37, 38, 39, 40, 41, 60, 61, 62, 50, 51, 52, 53, 54, 55, 56, 57, 58, 59] (by decide +kernel) (by decide +kernel)
set_option maxRecDepth 20000 in
theorem gX5_last_X0_firstWinner : GoodIn wsX5_last (wsV RX5 141 RX0 yX0_firstWinner wsX0_firstWinner) := goodIn_app (goodIn_of _ (by decide +kernel)) ggX5_last_X0_firstWinner
theorem dX5_last_0 : decode cX5_last 0 = .ok (.iload_n 1, 1) := by decide +kernel
theorem dX5_last_1 : decode cX5_last 1 = .ok (.ifCond .lt 8, 3) := by decide +kernel
theorem dX5_last_4 : decode cX5_last 4 = .ok (.iload_n 1, 1) := by decide +kernel
theorem dX5_last_5 : decode cX5_last 5 = .ok (.iconst 2, 1) := by decide +kernel
theorem dX5_last_6 : decode cX5_last 6 = .ok (.if_icmp .le 5, 3) := by decide +kernel
theorem dX5_last_9 : decode cX5_last 9 = .ok (.iconst (-1), 1) := by decide +kernel
theorem dX5_last_10 : decode cX5_last 10 = .ok (.ireturn, 1) := by decide +kernel
theorem dX5_last_11 : decode cX5_last 11 = .ok (.aload_n 0, 1) := by decide +kernel
theorem dX5_last_12 : decode cX5_last 12 = .ok (.getfield 10, 3) := by decide +kernel
theorem dX5_last_15 : decode cX5_last 15 = .ok (.getfield 93, 3) := by decide +kernel
theorem dX5_last_18 : decode cX5_last 18 = .ok (.ifCond .ne 6, 3) := by decide +kernel
theorem dX5_last_21 : decode cX5_last 21 = .ok (.bipush (-3), 2) := by decide +kernel
theorem dX5_last_23 : decode cX5_last 23 = .ok (.ireturn, 1) := by decide +kernel
theorem dX5_last_24 : decode cX5_last 24 = .ok (.iload_n 1, 1) := by decide +kernel
theorem dX5_last_25 : decode cX5_last 25 = .ok (.ifCond .ne 11, 3) := by decide +kernel
theorem dX5_last_28 : decode cX5_last 28 = .ok (.aload_n 0, 1) := by decide +kernel
theorem dX5_last_29 : decode cX5_last 29 = .ok (.getfield 10, 3) := by decide +kernel
theorem dX5_last_32 : decode cX5_last 32 = .ok (.getfield 134, 3) := by decide +kernel
theorem dX5_last_35 : decode cX5_last 35 = .ok (.ireturn, 1) := by decide +kernel
theorem dX5_last_36 : decode cX5_last 36 = .ok (.iload_n 1, 1) := by decide +kernel
theorem dX5_last_37 : decode cX5_last 37 = .ok (.iconst 1, 1) := by decide +kernel
theorem dX5_last_38 : decode cX5_last 38 = .ok (.if_icmp .ne 20, 3) := by decide +kernel
theorem dX5_last_41 : decode cX5_last 41 = .ok (.aload_n 0, 1) := by decide +kernel
theorem dX5_last_42 : decode cX5_last 42 = .ok (.getfield 10, 3) := by decide +kernel
theorem dX5_last_45 : decode cX5_last 45 = .ok (.aload_n 0, 1) := by decide +kernel
theorem dX5_last_46 : decode cX5_last 46 = .ok (.getfield 10, 3) := by decide +kernel
theorem dX5_last_49 : decode cX5_last 49 = .ok (.getfield 96, 3) := by decide +kernel
theorem dX5_last_52 : decode cX5_last 52 = .ok (.invokevirtual 137, 3) := by decide +kernel
theorem dX5_last_55 : decode cX5_last 55 = .ok (.goto 17, 3) := by decide +kernel
theorem dX5_last_58 : decode cX5_last 58 = .ok (.aload_n 0, 1) := by decide +kernel
theorem dX5_last_59 : decode cX5_last 59 = .ok (.getfield 10, 3) := by decide +kernel
theorem dX5_last_62 : decode cX5_last 62 = .ok (.aload_n 0, 1) := by decide +kernel
theorem dX5_last_63 : decode cX5_last 63 = .ok (.getfield 10, 3) := by decide +kernel
theorem dX5_last_66 : decode cX5_last 66 = .ok (.getfield 96, 3) := by decide +kernel
theorem dX5_last_69 : decode cX5_last 69 = .ok (.invokevirtual 141, 3) := by decide +kernel
theorem dX5_last_72 : decode cX5_last 72 = .ok (.ireturn, 1) := by decide +kernel
set_option maxRecDepth 20000 in
theorem ggX5_target_X5_isOneOfTwo : GoodIn wsX5_target wsX5_isOneOfTwo := goodIn_r _ [7] (by decide +kernel) (by decide +kernel)
set_option maxRecDepth 20000 in
theorem gX5_target_X5_isOneOfTwo : GoodIn wsX5_target (va_wsS RX5 144 yX5_isOneOfTwo wsX5_isOneOfTwo) := goodIn_app (goodIn_of _ (by decide +kernel)) ggX5_target_X5_isOneOfTwo
set_option maxRecDepth 20000 in
theorem ggX5_target_X0_targetAbove : GoodIn wsX5_target wsX0_targetAbove := goodIn_r _ [12, 13, 14, 15, 16, 17, 18, 19, 20, 43, 44, 45, 46, 47, 48, 49, 50, 51, 52, 53, 54, 55] (by decide +kernel) (by decide +kernel)
set_option maxRecDepth 20000 in
theorem gX5_target_X0_targetAbove : GoodIn wsX5_target (wsV RX5 147 RX0 yX0_targetAbove wsX0_targetAbove) := goodIn_app (goodIn_of _ (by decide +kernel)) ggX5_target_X0_targetAbove
set_option maxRecDepth 20000 in
theorem ggX5_target_X0_targetLine : GoodIn wsX5_target wsX0_targetLine := goodIn_r _ [24, 25, 26, 43, 44, 45, 46, 47, 48, 49, 50, 51, 52, 53, 54, 55] (by decide +kernel) (by decide +kernel)
set_option maxRecDepth 20000 in
theorem gX5_target_X0_targetLine : GoodIn wsX5_target (wsV RX5 150 RX0 yX0_targetLine wsX0_targetLine) := goodIn_app (goodIn_of _ (by decide +kernel)) ggX5_target_X0_targetLine
set_option maxRecDepth 20000 in
theorem ggX5_target_X5_leastPart : GoodIn wsX5_target wsX5_leastPart := goodIn_r _ [29, 30, 31, 6, 32, 33, 34, 35] (by decide +kernel) (by decide +kernel)
set_option maxRecDepth 20000 in
theorem gX5_target_X5_leastPart : GoodIn wsX5_target (va_wsS RX5 153 yX5_leastPart wsX5_leastPart) := goodIn_app (goodIn_of _ (by decide +kernel)) ggX5_target_X5_leastPart
theorem dX5_target_0 : decode cX5_target 0 = .ok (.iload_n 1, 1) := by decide +kernel
theorem dX5_target_1 : decode cX5_target 1 = .ok (.invokestatic 144, 3) := by decide +kernel
theorem dX5_target_4 : decode cX5_target 4 = .ok (.ifCond .ne 5, 3) := by decide +kernel
theorem dX5_target_7 : decode cX5_target 7 = .ok (.iconst (-1), 1) := by decide +kernel
theorem dX5_target_8 : decode cX5_target 8 = .ok (.ireturn, 1) := by decide +kernel
theorem dX5_target_9 : decode cX5_target 9 = .ok (.aload_n 0, 1) := by decide +kernel
theorem dX5_target_10 : decode cX5_target 10 = .ok (.getfield 10, 3) := by decide +kernel
theorem dX5_target_13 : decode cX5_target 13 = .ok (.getfield 93, 3) := by decide +kernel
theorem dX5_target_16 : decode cX5_target 16 = .ok (.ifCond .ne 6, 3) := by decide +kernel
theorem dX5_target_19 : decode cX5_target 19 = .ok (.bipush (-3), 2) := by decide +kernel
theorem dX5_target_21 : decode cX5_target 21 = .ok (.ireturn, 1) := by decide +kernel
theorem dX5_target_22 : decode cX5_target 22 = .ok (.aload_n 0, 1) := by decide +kernel
theorem dX5_target_23 : decode cX5_target 23 = .ok (.getfield 10, 3) := by decide +kernel
theorem dX5_target_26 : decode cX5_target 26 = .ok (.aload_n 0, 1) := by decide +kernel
theorem dX5_target_27 : decode cX5_target 27 = .ok (.getfield 10, 3) := by decide +kernel
theorem dX5_target_30 : decode cX5_target 30 = .ok (.getfield 96, 3) := by decide +kernel
theorem dX5_target_33 : decode cX5_target 33 = .ok (.invokevirtual 147, 3) := by decide +kernel
theorem dX5_target_36 : decode cX5_target 36 = .ok (.aload_n 0, 1) := by decide +kernel
theorem dX5_target_37 : decode cX5_target 37 = .ok (.getfield 10, 3) := by decide +kernel
theorem dX5_target_40 : decode cX5_target 40 = .ok (.aload_n 0, 1) := by decide +kernel
theorem dX5_target_41 : decode cX5_target 41 = .ok (.getfield 10, 3) := by decide +kernel
theorem dX5_target_44 : decode cX5_target 44 = .ok (.getfield 96, 3) := by decide +kernel
theorem dX5_target_47 : decode cX5_target 47 = .ok (.invokevirtual 150, 3) := by decide +kernel
theorem dX5_target_50 : decode cX5_target 50 = .ok (.iload_n 1, 1) := by decide +kernel
theorem dX5_target_51 : decode cX5_target 51 = .ok (.invokestatic 153, 3) := by decide +kernel
theorem dX5_target_54 : decode cX5_target 54 = .ok (.ireturn, 1) := by decide +kernel
set_option maxRecDepth 20000 in
theorem ggX5_wins_X0_personAt : GoodIn wsX5_wins wsX0_personAt := goodIn_r _ [8, 9, 10, 160, 161, 162, 163, 164, 165, 166, 167, 168, 169] (by decide +kernel) (by decide +kernel)
set_option maxRecDepth 20000 in
theorem gX5_wins_X0_personAt : GoodIn wsX5_wins (wsV RX5 78 RX0 yX0_personAt wsX0_personAt) := goodIn_app (goodIn_of _ (by decide +kernel)) ggX5_wins_X0_personAt
set_option maxRecDepth 20000 in
theorem ggX5_wins_X0_takeFrom : GoodIn wsX5_wins wsX0_takeFrom := goodIn_r _ [14, 15, 16, 17, 18, 19, 20, 9, 10, 21, 22, 23, 24, 25, 26, 27, 28, 29, 30, 31, 32, 33, 34, 35, 36, 37, 38, 39, 40, 41, 42, 43, 44, 45, 46, 47, 48, 49, 50, 51, 52, 53, 54, 55, 56, 57, 58, 59, 160, 161, 162, 163, 164, 165, 166, 167, 168, 169, 170, 171, 172, 173, 174, 175, 176] (by decide +kernel) (by decide +kernel)
set_option maxRecDepth 20000 in
theorem gX5_wins_X0_takeFrom : GoodIn wsX5_wins (wsV RX5 66 RX0 yX0_takeFrom wsX0_takeFrom) := goodIn_app (goodIn_of _ (by decide +kernel)) ggX5_wins_X0_takeFrom
set_option maxRecDepth 20000 in
theorem ggX5_wins_X0_play : GoodIn wsX5_wins wsX0_play := goodIn_r _ [63, 21, 9, 10, 22, 20, 64, 45, 46, 39, 47, 41, 43, 48, 49, 50, 51, 42, 52, 53, 54, 55, 65, 66, 67, 7, 68, 69, 70, 71, 72, 73, 74, 17, 75, 15, 16, 76, 77, 78, 79, 19, 80, 81, 82, 83, 84, 85, 86, 87, 88, 89, 90, 91, 92, 93, 94, 95, 96, 97, 98, 99, 100, 101, 102, 103, 104, 105, 106, 107, 108, 109, 110, 111, 112, 113, 114, 115, 116, 117, 118, 119, 120, 121, 122, 123, 124, 125, 126, 127, 128, 129, 160, 161, 162, 163, 164, 165, 166, 167, 168, 169, 174, 175, 176, 170, 171, 172, 173] (by decide +kernel) (by decide +kernel)
set_option maxRecDepth 20000 in
theorem gX5_wins_X0_play : GoodIn wsX5_wins (wsV RX5 128 RX0 yX0_play wsX0_play) := goodIn_app (goodIn_of _ (by decide +kernel)) ggX5_wins_X0_play
set_option maxRecDepth 20000 in
theorem ggX5_wins_X0_isWinner : GoodIn wsX5_wins wsX0_isWinner := goodIn_r _ [133, 134, 135, 136, 7, 137, 81, 138, 139, 140, 141, 142, 15, 126, 127, 128, 39, 129, 42, 43, 143, 144, 145, 146, 16, 147, 57, 58, 59, 148, 149, 150, 151, 18, 152, 119, 120, 121, 174, 175, 176, 160, 161, 162, 163, 164, 165, 166, 167, 168, 169] (by decide +kernel) (by decide +kernel)
set_option maxRecDepth 20000 in
theorem gX5_wins_X0_isWinner : GoodIn wsX5_wins (wsV RX5 157 RX0 yX0_isWinner wsX0_isWinner) := goodIn_app (goodIn_of _ (by decide +kernel)) ggX5_wins_X0_isWinner
theorem dX5_wins_0 : decode cX5_wins 0 = .ok (.aload_n 0, 1) := by decide +kernel
theorem dX5_wins_1 : decode cX5_wins 1 = .ok (.getfield 10, 3) := by decide +kernel
theorem dX5_wins_4 : decode cX5_wins 4 = .ok (.iload_n 1, 1) := by decide +kernel
theorem dX5_wins_5 : decode cX5_wins 5 = .ok (.invokevirtual 78, 3) := by decide +kernel
theorem dX5_wins_8 : decode cX5_wins 8 = .ok (.ifnull 14, 3) := by decide +kernel
theorem dX5_wins_11 : decode cX5_wins 11 = .ok (.iload_n 2, 1) := by decide +kernel
theorem dX5_wins_12 : decode cX5_wins 12 = .ok (.iconst 1, 1) := by decide +kernel
theorem dX5_wins_13 : decode cX5_wins 13 = .ok (.if_icmp .lt 9, 3) := by decide +kernel
theorem dX5_wins_16 : decode cX5_wins 16 = .ok (.iload_n 2, 1) := by decide +kernel
theorem dX5_wins_17 : decode cX5_wins 17 = .ok (.bipush 20, 2) := by decide +kernel
theorem dX5_wins_19 : decode cX5_wins 19 = .ok (.if_icmp .le 5, 3) := by decide +kernel
theorem dX5_wins_22 : decode cX5_wins 22 = .ok (.iconst (-1), 1) := by decide +kernel
theorem dX5_wins_23 : decode cX5_wins 23 = .ok (.ireturn, 1) := by decide +kernel
theorem dX5_wins_24 : decode cX5_wins 24 = .ok (.aload_n 0, 1) := by decide +kernel
theorem dX5_wins_25 : decode cX5_wins 25 = .ok (.getfield 19, 3) := by decide +kernel
theorem dX5_wins_28 : decode cX5_wins 28 = .ok (.aload_n 0, 1) := by decide +kernel
theorem dX5_wins_29 : decode cX5_wins 29 = .ok (.getfield 10, 3) := by decide +kernel
theorem dX5_wins_32 : decode cX5_wins 32 = .ok (.invokevirtual 66, 3) := by decide +kernel
theorem dX5_wins_35 : decode cX5_wins 35 = .ok (.iconst 0, 1) := by decide +kernel
theorem dX5_wins_36 : decode cX5_wins 36 = .ok (.istore_n 3, 1) := by decide +kernel
theorem dX5_wins_37 : decode cX5_wins 37 = .ok (.iconst 0, 1) := by decide +kernel
theorem dX5_wins_38 : decode cX5_wins 38 = .ok (.istore 4, 2) := by decide +kernel
theorem dX5_wins_40 : decode cX5_wins 40 = .ok (.iload 4, 2) := by decide +kernel
theorem dX5_wins_42 : decode cX5_wins 42 = .ok (.iload_n 2, 1) := by decide +kernel
theorem dX5_wins_43 : decode cX5_wins 43 = .ok (.if_icmp .ge 37, 3) := by decide +kernel
theorem dX5_wins_46 : decode cX5_wins 46 = .ok (.aload_n 0, 1) := by decide +kernel
theorem dX5_wins_47 : decode cX5_wins 47 = .ok (.getfield 19, 3) := by decide +kernel
theorem dX5_wins_50 : decode cX5_wins 50 = .ok (.invokevirtual 128, 3) := by decide +kernel
theorem dX5_wins_53 : decode cX5_wins 53 = .ok (.aload_n 0, 1) := by decide +kernel
theorem dX5_wins_54 : decode cX5_wins 54 = .ok (.getfield 19, 3) := by decide +kernel
theorem dX5_wins_57 : decode cX5_wins 57 = .ok (.aload_n 0, 1) := by decide +kernel
theorem dX5_wins_58 : decode cX5_wins 58 = .ok (.getfield 19, 3) := by decide +kernel
theorem dX5_wins_61 : decode cX5_wins 61 = .ok (.getfield 96, 3) := by decide +kernel
theorem dX5_wins_64 : decode cX5_wins 64 = .ok (.iload_n 1, 1) := by decide +kernel
theorem dX5_wins_65 : decode cX5_wins 65 = .ok (.invokevirtual 157, 3) := by decide +kernel
theorem dX5_wins_68 : decode cX5_wins 68 = .ok (.ifCond .eq 6, 3) := by decide +kernel
theorem dX5_wins_71 : decode cX5_wins 71 = .ok (.iinc 3 1, 3) := by decide +kernel
theorem dX5_wins_74 : decode cX5_wins 74 = .ok (.iinc 4 1, 3) := by decide +kernel
theorem dX5_wins_77 : decode cX5_wins 77 = .ok (.goto (-37), 3) := by decide +kernel
theorem dX5_wins_80 : decode cX5_wins 80 = .ok (.iload_n 3, 1) := by decide +kernel
theorem dX5_wins_81 : decode cX5_wins 81 = .ok (.ireturn, 1) := by decide +kernel
set_option maxRecDepth 20000 in
theorem ggX5_mean_X5_shelfAt : GoodIn wsX5_mean wsX5_shelfAt := goodIn_r _ [8, 9, 72, 73, 74, 75, 76, 77, 78] (by decide +kernel) (by decide +kernel)
set_option maxRecDepth 20000 in
theorem gX5_mean_X5_shelfAt : GoodIn wsX5_mean (wsV RX5 36 RX5 yX5_shelfAt wsX5_shelfAt) := goodIn_app (goodIn_of _ (by decide +kernel)) ggX5_mean_X5_shelfAt
set_option maxRecDepth 20000 in
theorem ggX5_mean_X5_isOneOfTwo : GoodIn wsX5_mean wsX5_isOneOfTwo := goodIn_r _ [12] (by decide +kernel) (by decide +kernel)
set_option maxRecDepth 20000 in
theorem gX5_mean_X5_isOneOfTwo : GoodIn wsX5_mean (va_wsS RX5 144 yX5_isOneOfTwo wsX5_isOneOfTwo) := goodIn_app (goodIn_of _ (by decide +kernel)) ggX5_mean_X5_isOneOfTwo
set_option maxRecDepth 20000 in
theorem ggX5_mean_X5_cardsRefusal : GoodIn wsX5_mean wsX5_cardsRefusal := goodIn_r _ [16, 3, 1, 17, 18, 7, 19, 20, 21, 22, 23, 24, 25, 26, 27, 28, 29, 30, 31, 32, 33, 34, 35, 36, 37, 38, 39, 40, 41, 72, 73, 74, 75, 76, 77, 78, 66, 67, 68, 69, 70, 71, 79, 80, 81, 82, 83, 84, 85, 86, 87, 88] (by decide +kernel) (by decide +kernel)
set_option maxRecDepth 20000 in
theorem gX5_mean_X5_cardsRefusal : GoodIn wsX5_mean (wsV RX5 161 RX5 yX5_cardsRefusal wsX5_cardsRefusal) := goodIn_app (goodIn_of _ (by decide +kernel)) ggX5_mean_X5_cardsRefusal
set_option maxRecDepth 20000 in
theorem ggX5_mean_X3_sum : GoodIn wsX5_mean wsX3_sum := goodIn_r _ [45, 35, 36, 69, 70, 71] (by decide +kernel) (by decide +kernel)
set_option maxRecDepth 20000 in
theorem gX5_mean_X3_sum : GoodIn wsX5_mean (wsV RX5 164 RX3 yX3_sum wsX3_sum) := goodIn_app (goodIn_of _ (by decide +kernel)) ggX5_mean_X3_sum
set_option maxRecDepth 20000 in
theorem ggX5_mean_X5_leastPart : GoodIn wsX5_mean wsX5_leastPart := goodIn_r _ [48, 49, 50, 7, 51, 52, 53, 54] (by decide +kernel) (by decide +kernel)
set_option maxRecDepth 20000 in
theorem gX5_mean_X5_leastPart : GoodIn wsX5_mean (va_wsS RX5 153 yX5_leastPart wsX5_leastPart) := goodIn_app (goodIn_of _ (by decide +kernel)) ggX5_mean_X5_leastPart
set_option maxRecDepth 20000 in
theorem ggX5_mean_X0_targetAbove : GoodIn wsX5_mean wsX0_targetAbove := goodIn_r _ [58, 59, 60, 43, 44, 33, 45, 35, 36, 79, 80, 81, 82, 83, 84, 85, 86, 87, 88, 69, 70, 71] (by decide +kernel) (by decide +kernel)
set_option maxRecDepth 20000 in
theorem gX5_mean_X0_targetAbove : GoodIn wsX5_mean (wsV RX5 147 RX0 yX0_targetAbove wsX0_targetAbove) := goodIn_app (goodIn_of _ (by decide +kernel)) ggX5_mean_X0_targetAbove
set_option maxRecDepth 20000 in
theorem ggX5_mean_X0_targetLine : GoodIn wsX5_mean wsX0_targetLine := goodIn_r _ [64, 65, 29, 79, 80, 81, 82, 83, 84, 85, 86, 87, 88, 69, 70, 71] (by decide +kernel) (by decide +kernel)
set_option maxRecDepth 20000 in
theorem gX5_mean_X0_targetLine : GoodIn wsX5_mean (wsV RX5 150 RX0 yX0_targetLine wsX0_targetLine) := goodIn_app (goodIn_of _ (by decide +kernel)) ggX5_mean_X0_targetLine
theorem dX5_mean_0 : decode cX5_mean 0 = .ok (.aload_n 0, 1) := by decide +kernel
theorem dX5_mean_1 : decode cX5_mean 1 = .ok (.iload_n 1, 1) := by decide +kernel
theorem dX5_mean_2 : decode cX5_mean 2 = .ok (.invokevirtual 36, 3) := by decide +kernel
theorem dX5_mean_5 : decode cX5_mean 5 = .ok (.astore 4, 2) := by decide +kernel
theorem dX5_mean_7 : decode cX5_mean 7 = .ok (.iload_n 2, 1) := by decide +kernel
theorem dX5_mean_8 : decode cX5_mean 8 = .ok (.invokestatic 144, 3) := by decide +kernel
theorem dX5_mean_11 : decode cX5_mean 11 = .ok (.ifCond .eq 10, 3) := by decide +kernel
theorem dX5_mean_14 : decode cX5_mean 14 = .ok (.iload_n 3, 1) := by decide +kernel
theorem dX5_mean_15 : decode cX5_mean 15 = .ok (.invokestatic 144, 3) := by decide +kernel
theorem dX5_mean_18 : decode cX5_mean 18 = .ok (.ifCond .ne 5, 3) := by decide +kernel
theorem dX5_mean_21 : decode cX5_mean 21 = .ok (.iconst (-1), 1) := by decide +kernel
theorem dX5_mean_22 : decode cX5_mean 22 = .ok (.ireturn, 1) := by decide +kernel
theorem dX5_mean_23 : decode cX5_mean 23 = .ok (.aload_n 0, 1) := by decide +kernel
theorem dX5_mean_24 : decode cX5_mean 24 = .ok (.aload 4, 2) := by decide +kernel
theorem dX5_mean_26 : decode cX5_mean 26 = .ok (.invokevirtual 161, 3) := by decide +kernel
theorem dX5_mean_29 : decode cX5_mean 29 = .ok (.istore 5, 2) := by decide +kernel
theorem dX5_mean_31 : decode cX5_mean 31 = .ok (.iload 5, 2) := by decide +kernel
theorem dX5_mean_33 : decode cX5_mean 33 = .ok (.ifCond .eq 6, 3) := by decide +kernel
theorem dX5_mean_36 : decode cX5_mean 36 = .ok (.iload 5, 2) := by decide +kernel
theorem dX5_mean_38 : decode cX5_mean 38 = .ok (.ireturn, 1) := by decide +kernel
theorem dX5_mean_39 : decode cX5_mean 39 = .ok (.iload_n 2, 1) := by decide +kernel
theorem dX5_mean_40 : decode cX5_mean 40 = .ok (.ifCond .ne 24, 3) := by decide +kernel
theorem dX5_mean_43 : decode cX5_mean 43 = .ok (.aload 4, 2) := by decide +kernel
theorem dX5_mean_45 : decode cX5_mean 45 = .ok (.getfield 44, 3) := by decide +kernel
theorem dX5_mean_48 : decode cX5_mean 48 = .ok (.invokevirtual 164, 3) := by decide +kernel
theorem dX5_mean_51 : decode cX5_mean 51 = .ok (.aload 4, 2) := by decide +kernel
theorem dX5_mean_53 : decode cX5_mean 53 = .ok (.getfield 44, 3) := by decide +kernel
theorem dX5_mean_56 : decode cX5_mean 56 = .ok (.getfield 167, 3) := by decide +kernel
theorem dX5_mean_59 : decode cX5_mean 59 = .ok (.iload_n 3, 1) := by decide +kernel
theorem dX5_mean_60 : decode cX5_mean 60 = .ok (.invokestatic 153, 3) := by decide +kernel
theorem dX5_mean_63 : decode cX5_mean 63 = .ok (.ireturn, 1) := by decide +kernel
theorem dX5_mean_64 : decode cX5_mean 64 = .ok (.aload_n 0, 1) := by decide +kernel
theorem dX5_mean_65 : decode cX5_mean 65 = .ok (.getfield 10, 3) := by decide +kernel
theorem dX5_mean_68 : decode cX5_mean 68 = .ok (.aload 4, 2) := by decide +kernel
theorem dX5_mean_70 : decode cX5_mean 70 = .ok (.getfield 44, 3) := by decide +kernel
theorem dX5_mean_73 : decode cX5_mean 73 = .ok (.invokevirtual 147, 3) := by decide +kernel
theorem dX5_mean_76 : decode cX5_mean 76 = .ok (.aload_n 0, 1) := by decide +kernel
theorem dX5_mean_77 : decode cX5_mean 77 = .ok (.getfield 10, 3) := by decide +kernel
theorem dX5_mean_80 : decode cX5_mean 80 = .ok (.aload 4, 2) := by decide +kernel
theorem dX5_mean_82 : decode cX5_mean 82 = .ok (.getfield 44, 3) := by decide +kernel
theorem dX5_mean_85 : decode cX5_mean 85 = .ok (.invokevirtual 150, 3) := by decide +kernel
theorem dX5_mean_88 : decode cX5_mean 88 = .ok (.iload_n 3, 1) := by decide +kernel
theorem dX5_mean_89 : decode cX5_mean 89 = .ok (.invokestatic 153, 3) := by decide +kernel
theorem dX5_mean_92 : decode cX5_mean 92 = .ok (.ireturn, 1) := by decide +kernel
set_option maxRecDepth 20000 in
theorem ggX5_winners_X5_shelfAt : GoodIn wsX5_winners wsX5_shelfAt := goodIn_r _ [7, 8, 70, 71, 72, 73, 74, 75, 76] (by decide +kernel) (by decide +kernel)
set_option maxRecDepth 20000 in
theorem gX5_winners_X5_shelfAt : GoodIn wsX5_winners (wsV RX5 36 RX5 yX5_shelfAt wsX5_shelfAt) := goodIn_app (goodIn_of _ (by decide +kernel)) ggX5_winners_X5_shelfAt
set_option maxRecDepth 20000 in
theorem ggX5_winners_X5_isOneOfTwo : GoodIn wsX5_winners wsX5_isOneOfTwo := goodIn_r _ [11] (by decide +kernel) (by decide +kernel)
set_option maxRecDepth 20000 in
theorem gX5_winners_X5_isOneOfTwo : GoodIn wsX5_winners (va_wsS RX5 144 yX5_isOneOfTwo wsX5_isOneOfTwo) := goodIn_app (goodIn_of _ (by decide +kernel)) ggX5_winners_X5_isOneOfTwo
set_option maxRecDepth 20000 in
theorem ggX5_winners_X5_cardsRefusal : GoodIn wsX5_winners wsX5_cardsRefusal := goodIn_r _ [15, 1, 2, 16, 17, 6, 18, 19, 20, 21, 22, 23, 24, 25, 26, 27, 28, 29, 30, 31, 32, 33, 34, 35, 36, 37, 38, 39, 40, 70, 71, 72, 73, 74, 75, 76, 77, 78, 79, 80, 81, 82, 83, 84, 85, 86, 87, 88, 89, 90, 91, 92] (by decide +kernel) (by decide +kernel)
set_option maxRecDepth 20000 in
theorem gX5_winners_X5_cardsRefusal : GoodIn wsX5_winners (wsV RX5 161 RX5 yX5_cardsRefusal wsX5_cardsRefusal) := goodIn_app (goodIn_of _ (by decide +kernel)) ggX5_winners_X5_cardsRefusal
set_option maxRecDepth 20000 in
theorem ggX5_winners_X0_countWinners : GoodIn wsX5_winners wsX0_countWinners := goodIn_r _ [44, 28, 45, 46, 47, 26, 48, 49, 50, 51, 52, 53, 54, 55, 56, 57, 32, 58, 34, 35, 59, 60, 61, 62, 63, 29, 30, 31, 33, 64, 65, 66, 67, 68, 80, 81, 82, 83, 84, 85, 86, 87, 88, 89, 90, 91, 92] (by decide +kernel) (by decide +kernel)
set_option maxRecDepth 20000 in
theorem gX5_winners_X0_countWinners : GoodIn wsX5_winners (wsV RX5 137 RX0 yX0_countWinners wsX0_countWinners) := goodIn_app (goodIn_of _ (by decide +kernel)) ggX5_winners_X0_countWinners
set_option maxRecDepth 20000 in
theorem ggX5_winners_X0_firstWinner : GoodIn wsX5_winners wsX0_firstWinner := goodIn_r _ [48, 49, 28, 50, 51, 52, 26, 53, 54, 55, 56, 57, 32, 58, 34, 35, 59, 60, 61, 62, 63, 29, 30, 31, 33, 64, 65, 66, 67, 68, 80, 81, 82, 83, 84, 85, 86, 87, 88, 89, 90, 91, 92] (by decide +kernel) (by decide +kernel)
set_option maxRecDepth 20000 in
theorem gX5_winners_X0_firstWinner : GoodIn wsX5_winners (wsV RX5 141 RX0 yX0_firstWinner wsX0_firstWinner) := goodIn_app (goodIn_of _ (by decide +kernel)) ggX5_winners_X0_firstWinner
theorem dX5_winners_0 : decode cX5_winners 0 = .ok (.aload_n 0, 1) := by decide +kernel
theorem dX5_winners_1 : decode cX5_winners 1 = .ok (.iload_n 1, 1) := by decide +kernel
theorem dX5_winners_2 : decode cX5_winners 2 = .ok (.invokevirtual 36, 3) := by decide +kernel
theorem dX5_winners_5 : decode cX5_winners 5 = .ok (.astore_n 3, 1) := by decide +kernel
theorem dX5_winners_6 : decode cX5_winners 6 = .ok (.iload_n 2, 1) := by decide +kernel
theorem dX5_winners_7 : decode cX5_winners 7 = .ok (.invokestatic 144, 3) := by decide +kernel
theorem dX5_winners_10 : decode cX5_winners 10 = .ok (.ifCond .ne 5, 3) := by decide +kernel
theorem dX5_winners_13 : decode cX5_winners 13 = .ok (.iconst (-1), 1) := by decide +kernel
theorem dX5_winners_14 : decode cX5_winners 14 = .ok (.ireturn, 1) := by decide +kernel
theorem dX5_winners_15 : decode cX5_winners 15 = .ok (.aload_n 0, 1) := by decide +kernel
theorem dX5_winners_16 : decode cX5_winners 16 = .ok (.aload_n 3, 1) := by decide +kernel
theorem dX5_winners_17 : decode cX5_winners 17 = .ok (.invokevirtual 161, 3) := by decide +kernel
theorem dX5_winners_20 : decode cX5_winners 20 = .ok (.istore 4, 2) := by decide +kernel
theorem dX5_winners_22 : decode cX5_winners 22 = .ok (.iload 4, 2) := by decide +kernel
theorem dX5_winners_24 : decode cX5_winners 24 = .ok (.ifCond .eq 6, 3) := by decide +kernel
theorem dX5_winners_27 : decode cX5_winners 27 = .ok (.iload 4, 2) := by decide +kernel
theorem dX5_winners_29 : decode cX5_winners 29 = .ok (.ireturn, 1) := by decide +kernel
theorem dX5_winners_30 : decode cX5_winners 30 = .ok (.iload_n 2, 1) := by decide +kernel
theorem dX5_winners_31 : decode cX5_winners 31 = .ok (.ifCond .ne 17, 3) := by decide +kernel
theorem dX5_winners_34 : decode cX5_winners 34 = .ok (.aload_n 0, 1) := by decide +kernel
theorem dX5_winners_35 : decode cX5_winners 35 = .ok (.getfield 10, 3) := by decide +kernel
theorem dX5_winners_38 : decode cX5_winners 38 = .ok (.aload_n 3, 1) := by decide +kernel
theorem dX5_winners_39 : decode cX5_winners 39 = .ok (.getfield 44, 3) := by decide +kernel
theorem dX5_winners_42 : decode cX5_winners 42 = .ok (.invokevirtual 137, 3) := by decide +kernel
theorem dX5_winners_45 : decode cX5_winners 45 = .ok (.goto 14, 3) := by decide +kernel
theorem dX5_winners_48 : decode cX5_winners 48 = .ok (.aload_n 0, 1) := by decide +kernel
theorem dX5_winners_49 : decode cX5_winners 49 = .ok (.getfield 10, 3) := by decide +kernel
theorem dX5_winners_52 : decode cX5_winners 52 = .ok (.aload_n 3, 1) := by decide +kernel
theorem dX5_winners_53 : decode cX5_winners 53 = .ok (.getfield 44, 3) := by decide +kernel
theorem dX5_winners_56 : decode cX5_winners 56 = .ok (.invokevirtual 141, 3) := by decide +kernel
theorem dX5_winners_59 : decode cX5_winners 59 = .ok (.ireturn, 1) := by decide +kernel
set_option maxRecDepth 20000 in
theorem ggX5_best_X5_shelfAt : GoodIn wsX5_best wsX5_shelfAt := goodIn_r _ [7, 8, 54, 55, 56, 57, 58, 59, 60] (by decide +kernel) (by decide +kernel)
set_option maxRecDepth 20000 in
theorem gX5_best_X5_shelfAt : GoodIn wsX5_best (wsV RX5 36 RX5 yX5_shelfAt wsX5_shelfAt) := goodIn_app (goodIn_of _ (by decide +kernel)) ggX5_best_X5_shelfAt
set_option maxRecDepth 20000 in
theorem ggX5_best_X5_cardsRefusal : GoodIn wsX5_best wsX5_cardsRefusal := goodIn_r _ [12, 1, 2, 13, 14, 6, 15, 16, 17, 18, 19, 20, 21, 22, 23, 24, 25, 26, 27, 28, 29, 30, 31, 32, 33, 34, 35, 36, 37, 54, 55, 56, 57, 58, 59, 60, 61, 62, 63, 64, 65, 66, 67, 68, 69, 70, 71, 72, 73, 74, 75, 76] (by decide +kernel) (by decide +kernel)
set_option maxRecDepth 20000 in
theorem gX5_best_X5_cardsRefusal : GoodIn wsX5_best (wsV RX5 161 RX5 yX5_cardsRefusal wsX5_cardsRefusal) := goodIn_app (goodIn_of _ (by decide +kernel)) ggX5_best_X5_cardsRefusal
set_option maxRecDepth 20000 in
theorem ggX5_best_X0_bestAgainst : GoodIn wsX5_best wsX0_bestAgainst := goodIn_r _ [41, 42, 25, 43, 37, 44, 45, 46, 47, 48, 29, 49, 31, 32, 50, 51, 52, 23, 53, 67, 68, 69, 70, 71, 72, 73, 74, 75, 76, 64, 65, 66] (by decide +kernel) (by decide +kernel)
set_option maxRecDepth 20000 in
theorem gX5_best_X0_bestAgainst : GoodIn wsX5_best (wsV RX5 170 RX0 yX0_bestAgainst wsX0_bestAgainst) := goodIn_app (goodIn_of _ (by decide +kernel)) ggX5_best_X0_bestAgainst
theorem dX5_best_0 : decode cX5_best 0 = .ok (.aload_n 0, 1) := by decide +kernel
theorem dX5_best_1 : decode cX5_best 1 = .ok (.iload_n 1, 1) := by decide +kernel
theorem dX5_best_2 : decode cX5_best 2 = .ok (.invokevirtual 36, 3) := by decide +kernel
theorem dX5_best_5 : decode cX5_best 5 = .ok (.astore_n 2, 1) := by decide +kernel
theorem dX5_best_6 : decode cX5_best 6 = .ok (.aload_n 0, 1) := by decide +kernel
theorem dX5_best_7 : decode cX5_best 7 = .ok (.aload_n 2, 1) := by decide +kernel
theorem dX5_best_8 : decode cX5_best 8 = .ok (.invokevirtual 161, 3) := by decide +kernel
theorem dX5_best_11 : decode cX5_best 11 = .ok (.istore_n 3, 1) := by decide +kernel
theorem dX5_best_12 : decode cX5_best 12 = .ok (.iload_n 3, 1) := by decide +kernel
theorem dX5_best_13 : decode cX5_best 13 = .ok (.ifCond .eq 7, 3) := by decide +kernel
theorem dX5_best_16 : decode cX5_best 16 = .ok (.iload_n 3, 1) := by decide +kernel
theorem dX5_best_17 : decode cX5_best 17 = .ok (.goto 14, 3) := by decide +kernel
theorem dX5_best_20 : decode cX5_best 20 = .ok (.aload_n 0, 1) := by decide +kernel
theorem dX5_best_21 : decode cX5_best 21 = .ok (.getfield 10, 3) := by decide +kernel
theorem dX5_best_24 : decode cX5_best 24 = .ok (.aload_n 2, 1) := by decide +kernel
theorem dX5_best_25 : decode cX5_best 25 = .ok (.getfield 44, 3) := by decide +kernel
theorem dX5_best_28 : decode cX5_best 28 = .ok (.invokevirtual 170, 3) := by decide +kernel
theorem dX5_best_31 : decode cX5_best 31 = .ok (.ireturn, 1) := by decide +kernel
set_option maxRecDepth 20000 in
theorem ggX5_level_X5_isStepCount : GoodIn wsX5_level wsX5_isStepCount := goodIn_r _ [5] (by decide +kernel) (by decide +kernel)
set_option maxRecDepth 20000 in
theorem gX5_level_X5_isStepCount : GoodIn wsX5_level (va_wsS RX5 114 yX5_isStepCount wsX5_isStepCount) := goodIn_app (goodIn_of _ (by decide +kernel)) ggX5_level_X5_isStepCount
set_option maxRecDepth 20000 in
theorem ggX5_level_X0_stepped : GoodIn wsX5_level wsX0_stepped := goodIn_r _ [10, 11, 12, 13, 9, 14, 15, 16, 17, 18, 19, 20, 21, 22, 23, 24, 25, 26, 4, 27, 28, 29, 30, 31, 39, 40, 41, 42, 43, 44, 45, 46, 47, 48] (by decide +kernel) (by decide +kernel)
set_option maxRecDepth 20000 in
theorem gX5_level_X0_stepped : GoodIn wsX5_level (wsV RX5 173 RX0 yX0_stepped wsX0_stepped) := goodIn_app (goodIn_of _ (by decide +kernel)) ggX5_level_X0_stepped
theorem dX5_level_0 : decode cX5_level 0 = .ok (.iload_n 1, 1) := by decide +kernel
theorem dX5_level_1 : decode cX5_level 1 = .ok (.invokestatic 114, 3) := by decide +kernel
theorem dX5_level_4 : decode cX5_level 4 = .ok (.ifCond .eq 14, 3) := by decide +kernel
theorem dX5_level_7 : decode cX5_level 7 = .ok (.aload_n 0, 1) := by decide +kernel
theorem dX5_level_8 : decode cX5_level 8 = .ok (.getfield 10, 3) := by decide +kernel
theorem dX5_level_11 : decode cX5_level 11 = .ok (.iload_n 1, 1) := by decide +kernel
theorem dX5_level_12 : decode cX5_level 12 = .ok (.invokevirtual 173, 3) := by decide +kernel
theorem dX5_level_15 : decode cX5_level 15 = .ok (.goto 4, 3) := by decide +kernel
theorem dX5_level_18 : decode cX5_level 18 = .ok (.iconst (-1), 1) := by decide +kernel
theorem dX5_level_19 : decode cX5_level 19 = .ok (.ireturn, 1) := by decide +kernel
set_option maxRecDepth 20000 in
theorem ggX5_stepsOf_X0_isCard : GoodIn wsX5_stepsOf wsX0_isCard := goodIn_r _ [6, 7, 40, 41, 42, 43, 44, 45, 46, 47, 48, 49] (by decide +kernel) (by decide +kernel)
set_option maxRecDepth 20000 in
theorem gX5_stepsOf_X0_isCard : GoodIn wsX5_stepsOf (wsV RX5 176 RX0 yX0_isCard wsX0_isCard) := goodIn_app (goodIn_of _ (by decide +kernel)) ggX5_stepsOf_X0_isCard
set_option maxRecDepth 20000 in
theorem ggX5_stepsOf_X0_nearestSteps : GoodIn wsX5_stepsOf wsX0_nearestSteps := goodIn_r _ [11, 12, 13, 14, 15, 16, 17, 18, 5, 19, 7, 20, 21, 22, 23, 24, 25, 26, 27, 28, 29, 30, 31, 32, 40, 41, 42, 43, 44, 45, 46, 47, 48, 49] (by decide +kernel) (by decide +kernel)
set_option maxRecDepth 20000 in
theorem gX5_stepsOf_X0_nearestSteps : GoodIn wsX5_stepsOf (wsV RX5 179 RX0 yX0_nearestSteps wsX0_nearestSteps) := goodIn_app (goodIn_of _ (by decide +kernel)) ggX5_stepsOf_X0_nearestSteps
theorem dX5_stepsOf_0 : decode cX5_stepsOf 0 = .ok (.aload_n 0, 1) := by decide +kernel
theorem dX5_stepsOf_1 : decode cX5_stepsOf 1 = .ok (.getfield 10, 3) := by decide +kernel
theorem dX5_stepsOf_4 : decode cX5_stepsOf 4 = .ok (.iload_n 1, 1) := by decide +kernel
theorem dX5_stepsOf_5 : decode cX5_stepsOf 5 = .ok (.invokevirtual 176, 3) := by decide +kernel
theorem dX5_stepsOf_8 : decode cX5_stepsOf 8 = .ok (.ifCond .eq 14, 3) := by decide +kernel
theorem dX5_stepsOf_11 : decode cX5_stepsOf 11 = .ok (.aload_n 0, 1) := by decide +kernel
theorem dX5_stepsOf_12 : decode cX5_stepsOf 12 = .ok (.getfield 10, 3) := by decide +kernel
theorem dX5_stepsOf_15 : decode cX5_stepsOf 15 = .ok (.iload_n 1, 1) := by decide +kernel
theorem dX5_stepsOf_16 : decode cX5_stepsOf 16 = .ok (.invokevirtual 179, 3) := by decide +kernel
theorem dX5_stepsOf_19 : decode cX5_stepsOf 19 = .ok (.goto 4, 3) := by decide +kernel
theorem dX5_stepsOf_22 : decode cX5_stepsOf 22 = .ok (.iconst (-1), 1) := by decide +kernel
theorem dX5_stepsOf_23 : decode cX5_stepsOf 23 = .ok (.ireturn, 1) := by decide +kernel
set_option maxRecDepth 20000 in
theorem ggX5_shares_X5_shelfAt : GoodIn wsX5_shares wsX5_shelfAt := goodIn_r _ [8, 9, 73, 74, 75, 76, 77, 78, 79] (by decide +kernel) (by decide +kernel)
set_option maxRecDepth 20000 in
theorem gX5_shares_X5_shelfAt : GoodIn wsX5_shares (wsV RX5 36 RX5 yX5_shelfAt wsX5_shelfAt) := goodIn_app (goodIn_of _ (by decide +kernel)) ggX5_shares_X5_shelfAt
set_option maxRecDepth 20000 in
theorem ggX5_shares_X5_isStepCount : GoodIn wsX5_shares wsX5_isStepCount := goodIn_r _ [12] (by decide +kernel) (by decide +kernel)
set_option maxRecDepth 20000 in
theorem gX5_shares_X5_isStepCount : GoodIn wsX5_shares (va_wsS RX5 114 yX5_isStepCount wsX5_isStepCount) := goodIn_app (goodIn_of _ (by decide +kernel)) ggX5_shares_X5_isStepCount
set_option maxRecDepth 20000 in
theorem ggX5_shares_X5_cardsRefusal : GoodIn wsX5_shares wsX5_cardsRefusal := goodIn_r _ [16, 3, 1, 17, 18, 7, 19, 20, 21, 22, 23, 24, 25, 26, 27, 28, 29, 30, 31, 32, 33, 34, 35, 36, 37, 38, 39, 40, 41, 73, 74, 75, 76, 77, 78, 79, 67, 68, 69, 70, 71, 72, 80, 81, 82, 83, 84, 85, 86, 87, 88, 89] (by decide +kernel) (by decide +kernel)
set_option maxRecDepth 20000 in
theorem gX5_shares_X5_cardsRefusal : GoodIn wsX5_shares (wsV RX5 161 RX5 yX5_cardsRefusal wsX5_cardsRefusal) := goodIn_app (goodIn_of _ (by decide +kernel)) ggX5_shares_X5_cardsRefusal
set_option maxRecDepth 20000 in
theorem ggX5_shares_X3_at : GoodIn wsX5_shares wsX3_at := goodIn_r _ [34, 35, 36, 70, 71, 72] (by decide +kernel) (by decide +kernel)
set_option maxRecDepth 20000 in
theorem gX5_shares_X3_at : GoodIn wsX5_shares (wsV RX5 99 RX3 yX3_at wsX3_at) := goodIn_app (goodIn_of _ (by decide +kernel)) ggX5_shares_X3_at
set_option maxRecDepth 20000 in
theorem ggX5_shares_X0_nearestSteps : GoodIn wsX5_shares wsX0_nearestSteps := goodIn_r _ [46, 47, 48, 49, 50, 51, 52, 53, 27, 54, 41, 55, 56, 57, 58, 59, 60, 61, 7, 62, 63, 64, 65, 66, 80, 81, 82, 83, 84, 85, 86, 87, 88, 89] (by decide +kernel) (by decide +kernel)
set_option maxRecDepth 20000 in
theorem gX5_shares_X0_nearestSteps : GoodIn wsX5_shares (wsV RX5 179 RX0 yX0_nearestSteps wsX0_nearestSteps) := goodIn_app (goodIn_of _ (by decide +kernel)) ggX5_shares_X0_nearestSteps
theorem dX5_shares_0 : decode cX5_shares 0 = .ok (.aload_n 0, 1) := by decide +kernel
theorem dX5_shares_1 : decode cX5_shares 1 = .ok (.iload_n 1, 1) := by decide +kernel
theorem dX5_shares_2 : decode cX5_shares 2 = .ok (.invokevirtual 36, 3) := by decide +kernel
theorem dX5_shares_5 : decode cX5_shares 5 = .ok (.astore_n 3, 1) := by decide +kernel
theorem dX5_shares_6 : decode cX5_shares 6 = .ok (.iload_n 2, 1) := by decide +kernel
theorem dX5_shares_7 : decode cX5_shares 7 = .ok (.invokestatic 114, 3) := by decide +kernel
theorem dX5_shares_10 : decode cX5_shares 10 = .ok (.ifCond .ne 5, 3) := by decide +kernel
theorem dX5_shares_13 : decode cX5_shares 13 = .ok (.iconst (-1), 1) := by decide +kernel
theorem dX5_shares_14 : decode cX5_shares 14 = .ok (.ireturn, 1) := by decide +kernel
theorem dX5_shares_15 : decode cX5_shares 15 = .ok (.aload_n 0, 1) := by decide +kernel
theorem dX5_shares_16 : decode cX5_shares 16 = .ok (.aload_n 3, 1) := by decide +kernel
theorem dX5_shares_17 : decode cX5_shares 17 = .ok (.invokevirtual 161, 3) := by decide +kernel
theorem dX5_shares_20 : decode cX5_shares 20 = .ok (.istore 4, 2) := by decide +kernel
theorem dX5_shares_22 : decode cX5_shares 22 = .ok (.iload 4, 2) := by decide +kernel
theorem dX5_shares_24 : decode cX5_shares 24 = .ok (.ifCond .eq 6, 3) := by decide +kernel
theorem dX5_shares_27 : decode cX5_shares 27 = .ok (.iload 4, 2) := by decide +kernel
theorem dX5_shares_29 : decode cX5_shares 29 = .ok (.ireturn, 1) := by decide +kernel
theorem dX5_shares_30 : decode cX5_shares 30 = .ok (.iconst 0, 1) := by decide +kernel
theorem dX5_shares_31 : decode cX5_shares 31 = .ok (.istore 5, 2) := by decide +kernel
theorem dX5_shares_33 : decode cX5_shares 33 = .ok (.iconst 0, 1) := by decide +kernel
theorem dX5_shares_34 : decode cX5_shares 34 = .ok (.istore 6, 2) := by decide +kernel
theorem dX5_shares_36 : decode cX5_shares 36 = .ok (.iload 6, 2) := by decide +kernel
theorem dX5_shares_38 : decode cX5_shares 38 = .ok (.aload_n 3, 1) := by decide +kernel
theorem dX5_shares_39 : decode cX5_shares 39 = .ok (.getfield 44, 3) := by decide +kernel
theorem dX5_shares_42 : decode cX5_shares 42 = .ok (.getfield 167, 3) := by decide +kernel
theorem dX5_shares_45 : decode cX5_shares 45 = .ok (.if_icmp .ge 32, 3) := by decide +kernel
theorem dX5_shares_48 : decode cX5_shares 48 = .ok (.aload_n 0, 1) := by decide +kernel
theorem dX5_shares_49 : decode cX5_shares 49 = .ok (.getfield 10, 3) := by decide +kernel
theorem dX5_shares_52 : decode cX5_shares 52 = .ok (.aload_n 3, 1) := by decide +kernel
theorem dX5_shares_53 : decode cX5_shares 53 = .ok (.getfield 44, 3) := by decide +kernel
theorem dX5_shares_56 : decode cX5_shares 56 = .ok (.iload 6, 2) := by decide +kernel
theorem dX5_shares_58 : decode cX5_shares 58 = .ok (.invokevirtual 99, 3) := by decide +kernel
theorem dX5_shares_61 : decode cX5_shares 61 = .ok (.invokevirtual 179, 3) := by decide +kernel
theorem dX5_shares_64 : decode cX5_shares 64 = .ok (.iload_n 2, 1) := by decide +kernel
theorem dX5_shares_65 : decode cX5_shares 65 = .ok (.if_icmp .ne 6, 3) := by decide +kernel
theorem dX5_shares_68 : decode cX5_shares 68 = .ok (.iinc 5 1, 3) := by decide +kernel
theorem dX5_shares_71 : decode cX5_shares 71 = .ok (.iinc 6 1, 3) := by decide +kernel
theorem dX5_shares_74 : decode cX5_shares 74 = .ok (.goto (-38), 3) := by decide +kernel
theorem dX5_shares_77 : decode cX5_shares 77 = .ok (.iload 5, 2) := by decide +kernel
theorem dX5_shares_79 : decode cX5_shares 79 = .ok (.ireturn, 1) := by decide +kernel
set_option maxRecDepth 20000 in
theorem ggX5_words_X5_shelfAt : GoodIn wsX5_words wsX5_shelfAt := goodIn_r _ [9, 10, 67, 68, 69, 70, 71, 72, 73] (by decide +kernel) (by decide +kernel)
set_option maxRecDepth 20000 in
theorem gX5_words_X5_shelfAt : GoodIn wsX5_words (wsV RX5 36 RX5 yX5_shelfAt wsX5_shelfAt) := goodIn_app (goodIn_of _ (by decide +kernel)) ggX5_words_X5_shelfAt
set_option maxRecDepth 20000 in
theorem ggX5_words_X5_isOneOfTwo : GoodIn wsX5_words wsX5_isOneOfTwo := goodIn_r _ [13] (by decide +kernel) (by decide +kernel)
set_option maxRecDepth 20000 in
theorem gX5_words_X5_isOneOfTwo : GoodIn wsX5_words (va_wsS RX5 144 yX5_isOneOfTwo wsX5_isOneOfTwo) := goodIn_app (goodIn_of _ (by decide +kernel)) ggX5_words_X5_isOneOfTwo
set_option maxRecDepth 20000 in
theorem ggX5_words_X5_twoRowsRefusal : GoodIn wsX5_words wsX5_twoRowsRefusal := goodIn_r _ [16, 17, 61, 62, 63] (by decide +kernel) (by decide +kernel)
set_option maxRecDepth 20000 in
theorem gX5_words_X5_twoRowsRefusal : GoodIn wsX5_words (va_wsS RX5 182 yX5_twoRowsRefusal wsX5_twoRowsRefusal) := goodIn_app (goodIn_of _ (by decide +kernel)) ggX5_words_X5_twoRowsRefusal
set_option maxRecDepth 20000 in
theorem ggX5_words_X0_areCards : GoodIn wsX5_words wsX0_areCards := goodIn_r _ [22, 23, 24, 25, 26, 27, 28, 29, 30, 31, 32, 33, 21, 34, 35, 64, 65, 66, 74, 75, 76, 77, 78, 79, 80, 81, 82, 83] (by decide +kernel) (by decide +kernel)
set_option maxRecDepth 20000 in
theorem gX5_words_X0_areCards : GoodIn wsX5_words (wsV RX5 186 RX0 yX0_areCards wsX0_areCards) := goodIn_app (goodIn_of _ (by decide +kernel)) ggX5_words_X0_areCards
set_option maxRecDepth 20000 in
theorem ggX5_words_X3_at : GoodIn wsX5_words wsX3_at := goodIn_r _ [28, 29, 30, 64, 65, 66] (by decide +kernel) (by decide +kernel)
set_option maxRecDepth 20000 in
theorem gX5_words_X3_at : GoodIn wsX5_words (wsV RX5 99 RX3 yX3_at wsX3_at) := goodIn_app (goodIn_of _ (by decide +kernel)) ggX5_words_X3_at
set_option maxRecDepth 20000 in
theorem ggX5_words_X0_nearestSteps : GoodIn wsX5_words wsX0_nearestSteps := goodIn_r _ [40, 41, 42, 43, 44, 45, 46, 47, 21, 48, 35, 49, 50, 51, 52, 53, 54, 55, 8, 56, 57, 58, 59, 60, 74, 75, 76, 77, 78, 79, 80, 81, 82, 83] (by decide +kernel) (by decide +kernel)
set_option maxRecDepth 20000 in
theorem gX5_words_X0_nearestSteps : GoodIn wsX5_words (wsV RX5 179 RX0 yX0_nearestSteps wsX0_nearestSteps) := goodIn_app (goodIn_of _ (by decide +kernel)) ggX5_words_X0_nearestSteps
theorem dX5_words_0 : decode cX5_words 0 = .ok (.aload_n 0, 1) := by decide +kernel
theorem dX5_words_1 : decode cX5_words 1 = .ok (.iload_n 1, 1) := by decide +kernel
theorem dX5_words_2 : decode cX5_words 2 = .ok (.invokevirtual 36, 3) := by decide +kernel
theorem dX5_words_5 : decode cX5_words 5 = .ok (.astore 4, 2) := by decide +kernel
theorem dX5_words_7 : decode cX5_words 7 = .ok (.aload_n 0, 1) := by decide +kernel
theorem dX5_words_8 : decode cX5_words 8 = .ok (.iload_n 2, 1) := by decide +kernel
theorem dX5_words_9 : decode cX5_words 9 = .ok (.invokevirtual 36, 3) := by decide +kernel
theorem dX5_words_12 : decode cX5_words 12 = .ok (.astore 5, 2) := by decide +kernel
theorem dX5_words_14 : decode cX5_words 14 = .ok (.iload_n 3, 1) := by decide +kernel
theorem dX5_words_15 : decode cX5_words 15 = .ok (.invokestatic 144, 3) := by decide +kernel
theorem dX5_words_18 : decode cX5_words 18 = .ok (.ifCond .ne 5, 3) := by decide +kernel
theorem dX5_words_21 : decode cX5_words 21 = .ok (.iconst (-1), 1) := by decide +kernel
theorem dX5_words_22 : decode cX5_words 22 = .ok (.ireturn, 1) := by decide +kernel
theorem dX5_words_23 : decode cX5_words 23 = .ok (.aload 4, 2) := by decide +kernel
theorem dX5_words_25 : decode cX5_words 25 = .ok (.aload 5, 2) := by decide +kernel
theorem dX5_words_27 : decode cX5_words 27 = .ok (.invokestatic 182, 3) := by decide +kernel
theorem dX5_words_30 : decode cX5_words 30 = .ok (.istore 6, 2) := by decide +kernel
theorem dX5_words_32 : decode cX5_words 32 = .ok (.iload 6, 2) := by decide +kernel
theorem dX5_words_34 : decode cX5_words 34 = .ok (.ifCond .eq 6, 3) := by decide +kernel
theorem dX5_words_37 : decode cX5_words 37 = .ok (.iload 6, 2) := by decide +kernel
theorem dX5_words_39 : decode cX5_words 39 = .ok (.ireturn, 1) := by decide +kernel
theorem dX5_words_40 : decode cX5_words 40 = .ok (.aload 5, 2) := by decide +kernel
theorem dX5_words_42 : decode cX5_words 42 = .ok (.getfield 44, 3) := by decide +kernel
theorem dX5_words_45 : decode cX5_words 45 = .ok (.getfield 48, 3) := by decide +kernel
theorem dX5_words_48 : decode cX5_words 48 = .ok (.ifCond .eq 6, 3) := by decide +kernel
theorem dX5_words_51 : decode cX5_words 51 = .ok (.bipush (-12), 2) := by decide +kernel
theorem dX5_words_53 : decode cX5_words 53 = .ok (.ireturn, 1) := by decide +kernel
theorem dX5_words_54 : decode cX5_words 54 = .ok (.aload_n 0, 1) := by decide +kernel
theorem dX5_words_55 : decode cX5_words 55 = .ok (.getfield 10, 3) := by decide +kernel
theorem dX5_words_58 : decode cX5_words 58 = .ok (.aload 4, 2) := by decide +kernel
theorem dX5_words_60 : decode cX5_words 60 = .ok (.getfield 44, 3) := by decide +kernel
theorem dX5_words_63 : decode cX5_words 63 = .ok (.invokevirtual 186, 3) := by decide +kernel
theorem dX5_words_66 : decode cX5_words 66 = .ok (.ifCond .eq 22, 3) := by decide +kernel
theorem dX5_words_69 : decode cX5_words 69 = .ok (.aload 4, 2) := by decide +kernel
theorem dX5_words_71 : decode cX5_words 71 = .ok (.getfield 44, 3) := by decide +kernel
theorem dX5_words_74 : decode cX5_words 74 = .ok (.getfield 167, 3) := by decide +kernel
theorem dX5_words_77 : decode cX5_words 77 = .ok (.aload 5, 2) := by decide +kernel
theorem dX5_words_79 : decode cX5_words 79 = .ok (.getfield 44, 3) := by decide +kernel
theorem dX5_words_82 : decode cX5_words 82 = .ok (.getfield 167, 3) := by decide +kernel
theorem dX5_words_85 : decode cX5_words 85 = .ok (.if_icmp .eq 6, 3) := by decide +kernel
theorem dX5_words_88 : decode cX5_words 88 = .ok (.bipush (-13), 2) := by decide +kernel
theorem dX5_words_90 : decode cX5_words 90 = .ok (.ireturn, 1) := by decide +kernel
theorem dX5_words_91 : decode cX5_words 91 = .ok (.iconst 0, 1) := by decide +kernel
theorem dX5_words_92 : decode cX5_words 92 = .ok (.istore 7, 2) := by decide +kernel
theorem dX5_words_94 : decode cX5_words 94 = .ok (.iconst 0, 1) := by decide +kernel
theorem dX5_words_95 : decode cX5_words 95 = .ok (.istore 8, 2) := by decide +kernel
theorem dX5_words_97 : decode cX5_words 97 = .ok (.iconst 0, 1) := by decide +kernel
theorem dX5_words_98 : decode cX5_words 98 = .ok (.istore 9, 2) := by decide +kernel
theorem dX5_words_100 : decode cX5_words 100 = .ok (.iload 9, 2) := by decide +kernel
theorem dX5_words_102 : decode cX5_words 102 = .ok (.aload 4, 2) := by decide +kernel
theorem dX5_words_104 : decode cX5_words 104 = .ok (.getfield 44, 3) := by decide +kernel
theorem dX5_words_107 : decode cX5_words 107 = .ok (.getfield 167, 3) := by decide +kernel
theorem dX5_words_110 : decode cX5_words 110 = .ok (.if_icmp .ge 58, 3) := by decide +kernel
theorem dX5_words_113 : decode cX5_words 113 = .ok (.aload 5, 2) := by decide +kernel
theorem dX5_words_115 : decode cX5_words 115 = .ok (.getfield 44, 3) := by decide +kernel
theorem dX5_words_118 : decode cX5_words 118 = .ok (.iload 9, 2) := by decide +kernel
theorem dX5_words_120 : decode cX5_words 120 = .ok (.invokevirtual 99, 3) := by decide +kernel
theorem dX5_words_123 : decode cX5_words 123 = .ok (.aload_n 0, 1) := by decide +kernel
theorem dX5_words_124 : decode cX5_words 124 = .ok (.getfield 10, 3) := by decide +kernel
theorem dX5_words_127 : decode cX5_words 127 = .ok (.aload 4, 2) := by decide +kernel
theorem dX5_words_129 : decode cX5_words 129 = .ok (.getfield 44, 3) := by decide +kernel
theorem dX5_words_132 : decode cX5_words 132 = .ok (.iload 9, 2) := by decide +kernel
theorem dX5_words_134 : decode cX5_words 134 = .ok (.invokevirtual 99, 3) := by decide +kernel
theorem dX5_words_137 : decode cX5_words 137 = .ok (.invokevirtual 179, 3) := by decide +kernel
theorem dX5_words_140 : decode cX5_words 140 = .ok (.isub, 1) := by decide +kernel
theorem dX5_words_141 : decode cX5_words 141 = .ok (.istore 10, 2) := by decide +kernel
theorem dX5_words_143 : decode cX5_words 143 = .ok (.iload 10, 2) := by decide +kernel
theorem dX5_words_145 : decode cX5_words 145 = .ok (.ifCond .ne 9, 3) := by decide +kernel
theorem dX5_words_148 : decode cX5_words 148 = .ok (.iinc 7 1, 3) := by decide +kernel
theorem dX5_words_151 : decode cX5_words 151 = .ok (.goto 11, 3) := by decide +kernel
theorem dX5_words_154 : decode cX5_words 154 = .ok (.iload 10, 2) := by decide +kernel
theorem dX5_words_156 : decode cX5_words 156 = .ok (.ifCond .le 6, 3) := by decide +kernel
theorem dX5_words_159 : decode cX5_words 159 = .ok (.iinc 8 1, 3) := by decide +kernel
theorem dX5_words_162 : decode cX5_words 162 = .ok (.iinc 9 1, 3) := by decide +kernel
theorem dX5_words_165 : decode cX5_words 165 = .ok (.goto (-65), 3) := by decide +kernel
theorem dX5_words_168 : decode cX5_words 168 = .ok (.iload_n 3, 1) := by decide +kernel
theorem dX5_words_169 : decode cX5_words 169 = .ok (.ifCond .ne 8, 3) := by decide +kernel
theorem dX5_words_172 : decode cX5_words 172 = .ok (.iload 7, 2) := by decide +kernel
theorem dX5_words_174 : decode cX5_words 174 = .ok (.goto 5, 3) := by decide +kernel
theorem dX5_words_177 : decode cX5_words 177 = .ok (.iload 8, 2) := by decide +kernel
theorem dX5_words_179 : decode cX5_words 179 = .ok (.ireturn, 1) := by decide +kernel
set_option maxRecDepth 20000 in
theorem ggX5_ahead_X5_shelfAt : GoodIn wsX5_ahead wsX5_shelfAt := goodIn_r _ [11, 12, 121, 122, 123, 124, 125, 126, 127] (by decide +kernel) (by decide +kernel)
set_option maxRecDepth 20000 in
theorem gX5_ahead_X5_shelfAt : GoodIn wsX5_ahead (wsV RX5 36 RX5 yX5_shelfAt wsX5_shelfAt) := goodIn_app (goodIn_of _ (by decide +kernel)) ggX5_ahead_X5_shelfAt
set_option maxRecDepth 20000 in
theorem ggX5_ahead_X0_canBe : GoodIn wsX5_ahead wsX0_canBe := goodIn_r _ [16, 17, 10, 18] (by decide +kernel) (by decide +kernel)
set_option maxRecDepth 20000 in
theorem gX5_ahead_X0_canBe : GoodIn wsX5_ahead (va_wsS RX5 103 yX0_canBe wsX0_canBe) := goodIn_app (goodIn_of _ (by decide +kernel)) ggX5_ahead_X0_canBe
set_option maxRecDepth 20000 in
theorem ggX5_ahead_X5_cardsRefusal : GoodIn wsX5_ahead wsX5_cardsRefusal := goodIn_r _ [22, 2, 5, 23, 24, 10, 25, 26, 27, 28, 29, 30, 31, 32, 15, 33, 34, 35, 36, 37, 38, 39, 40, 41, 42, 43, 44, 45, 46, 121, 122, 123, 124, 125, 126, 127, 138, 139, 140, 141, 142, 143, 128, 129, 130, 131, 132, 133, 134, 135, 136, 137] (by decide +kernel) (by decide +kernel)
set_option maxRecDepth 20000 in
theorem gX5_ahead_X5_cardsRefusal : GoodIn wsX5_ahead (wsV RX5 161 RX5 yX5_cardsRefusal wsX5_cardsRefusal) := goodIn_app (goodIn_of _ (by decide +kernel)) ggX5_ahead_X5_cardsRefusal
set_option maxRecDepth 20000 in
theorem ggX5_ahead_X0_takeFrom : GoodIn wsX5_ahead wsX0_takeFrom := goodIn_r _ [50, 51, 52, 46, 53, 54, 55, 56, 57, 58, 59, 60, 61, 62, 63, 64, 65, 66, 67, 68, 69, 70, 71, 72, 73, 74, 75, 38, 76, 77, 40, 41, 78, 79, 80, 81, 82, 83, 84, 85, 86, 87, 88, 89, 90, 36, 37, 39, 128, 129, 130, 131, 132, 133, 134, 135, 136, 137, 144, 145, 146, 147, 141, 142, 143] (by decide +kernel) (by decide +kernel)
set_option maxRecDepth 20000 in
theorem gX5_ahead_X0_takeFrom : GoodIn wsX5_ahead (wsV RX5 66 RX0 yX0_takeFrom wsX0_takeFrom) := goodIn_app (goodIn_of _ (by decide +kernel)) ggX5_ahead_X0_takeFrom
set_option maxRecDepth 20000 in
theorem ggX5_ahead_X3_at : GoodIn wsX5_ahead wsX3_at := goodIn_r _ [39, 40, 41, 141, 142, 143] (by decide +kernel) (by decide +kernel)
set_option maxRecDepth 20000 in
theorem gX5_ahead_X3_at : GoodIn wsX5_ahead (wsV RX5 99 RX3 yX3_at wsX3_at) := goodIn_app (goodIn_of _ (by decide +kernel)) ggX5_ahead_X3_at
set_option maxRecDepth 20000 in
theorem ggX5_ahead_X0_nearestSteps : GoodIn wsX5_ahead wsX0_nearestSteps := goodIn_r _ [95, 96, 97, 84, 98, 99, 100, 101, 15, 102, 46, 103, 104, 105, 106, 51, 52, 107, 10, 108, 109, 110, 111, 112, 128, 129, 130, 131, 132, 133, 134, 135, 136, 137] (by decide +kernel) (by decide +kernel)
set_option maxRecDepth 20000 in
theorem gX5_ahead_X0_nearestSteps : GoodIn wsX5_ahead (wsV RX5 179 RX0 yX0_nearestSteps wsX0_nearestSteps) := goodIn_app (goodIn_of _ (by decide +kernel)) ggX5_ahead_X0_nearestSteps
set_option maxRecDepth 20000 in
theorem ggX5_ahead_X0_stepped : GoodIn wsX5_ahead wsX0_stepped := goodIn_r _ [116, 99, 100, 101, 15, 102, 46, 117, 118, 119, 120, 103, 104, 105, 106, 51, 52, 107, 10, 108, 109, 110, 111, 112, 128, 129, 130, 131, 132, 133, 134, 135, 136, 137] (by decide +kernel) (by decide +kernel)
set_option maxRecDepth 20000 in
theorem gX5_ahead_X0_stepped : GoodIn wsX5_ahead (wsV RX5 173 RX0 yX0_stepped wsX0_stepped) := goodIn_app (goodIn_of _ (by decide +kernel)) ggX5_ahead_X0_stepped
theorem dX5_ahead_0 : decode cX5_ahead 0 = .ok (.aload_n 0, 1) := by decide +kernel
theorem dX5_ahead_1 : decode cX5_ahead 1 = .ok (.iload_n 1, 1) := by decide +kernel
theorem dX5_ahead_2 : decode cX5_ahead 2 = .ok (.invokevirtual 36, 3) := by decide +kernel
theorem dX5_ahead_5 : decode cX5_ahead 5 = .ok (.astore 4, 2) := by decide +kernel
theorem dX5_ahead_7 : decode cX5_ahead 7 = .ok (.iconst 0, 1) := by decide +kernel
theorem dX5_ahead_8 : decode cX5_ahead 8 = .ok (.iload_n 2, 1) := by decide +kernel
theorem dX5_ahead_9 : decode cX5_ahead 9 = .ok (.invokestatic 103, 3) := by decide +kernel
theorem dX5_ahead_12 : decode cX5_ahead 12 = .ok (.ifCond .eq 11, 3) := by decide +kernel
theorem dX5_ahead_15 : decode cX5_ahead 15 = .ok (.iconst 1, 1) := by decide +kernel
theorem dX5_ahead_16 : decode cX5_ahead 16 = .ok (.iload_n 3, 1) := by decide +kernel
theorem dX5_ahead_17 : decode cX5_ahead 17 = .ok (.invokestatic 103, 3) := by decide +kernel
theorem dX5_ahead_20 : decode cX5_ahead 20 = .ok (.ifCond .ne 5, 3) := by decide +kernel
theorem dX5_ahead_23 : decode cX5_ahead 23 = .ok (.iconst (-1), 1) := by decide +kernel
theorem dX5_ahead_24 : decode cX5_ahead 24 = .ok (.ireturn, 1) := by decide +kernel
theorem dX5_ahead_25 : decode cX5_ahead 25 = .ok (.aload_n 0, 1) := by decide +kernel
theorem dX5_ahead_26 : decode cX5_ahead 26 = .ok (.aload 4, 2) := by decide +kernel
theorem dX5_ahead_28 : decode cX5_ahead 28 = .ok (.invokevirtual 161, 3) := by decide +kernel
theorem dX5_ahead_31 : decode cX5_ahead 31 = .ok (.istore 5, 2) := by decide +kernel
theorem dX5_ahead_33 : decode cX5_ahead 33 = .ok (.iload 5, 2) := by decide +kernel
theorem dX5_ahead_35 : decode cX5_ahead 35 = .ok (.ifCond .eq 6, 3) := by decide +kernel
theorem dX5_ahead_38 : decode cX5_ahead 38 = .ok (.iload 5, 2) := by decide +kernel
theorem dX5_ahead_40 : decode cX5_ahead 40 = .ok (.ireturn, 1) := by decide +kernel
theorem dX5_ahead_41 : decode cX5_ahead 41 = .ok (.aload_n 0, 1) := by decide +kernel
theorem dX5_ahead_42 : decode cX5_ahead 42 = .ok (.getfield 19, 3) := by decide +kernel
theorem dX5_ahead_45 : decode cX5_ahead 45 = .ok (.aload_n 0, 1) := by decide +kernel
theorem dX5_ahead_46 : decode cX5_ahead 46 = .ok (.getfield 10, 3) := by decide +kernel
theorem dX5_ahead_49 : decode cX5_ahead 49 = .ok (.invokevirtual 66, 3) := by decide +kernel
theorem dX5_ahead_52 : decode cX5_ahead 52 = .ok (.aload_n 0, 1) := by decide +kernel
theorem dX5_ahead_53 : decode cX5_ahead 53 = .ok (.getfield 19, 3) := by decide +kernel
theorem dX5_ahead_56 : decode cX5_ahead 56 = .ok (.iload_n 2, 1) := by decide +kernel
theorem dX5_ahead_57 : decode cX5_ahead 57 = .ok (.putfield 190, 3) := by decide +kernel
theorem dX5_ahead_60 : decode cX5_ahead 60 = .ok (.aload_n 0, 1) := by decide +kernel
theorem dX5_ahead_61 : decode cX5_ahead 61 = .ok (.getfield 19, 3) := by decide +kernel
theorem dX5_ahead_64 : decode cX5_ahead 64 = .ok (.iload_n 3, 1) := by decide +kernel
theorem dX5_ahead_65 : decode cX5_ahead 65 = .ok (.putfield 193, 3) := by decide +kernel
theorem dX5_ahead_68 : decode cX5_ahead 68 = .ok (.iconst 0, 1) := by decide +kernel
theorem dX5_ahead_69 : decode cX5_ahead 69 = .ok (.istore 6, 2) := by decide +kernel
theorem dX5_ahead_71 : decode cX5_ahead 71 = .ok (.iconst 0, 1) := by decide +kernel
theorem dX5_ahead_72 : decode cX5_ahead 72 = .ok (.istore 7, 2) := by decide +kernel
theorem dX5_ahead_74 : decode cX5_ahead 74 = .ok (.iload 7, 2) := by decide +kernel
theorem dX5_ahead_76 : decode cX5_ahead 76 = .ok (.aload 4, 2) := by decide +kernel
theorem dX5_ahead_78 : decode cX5_ahead 78 = .ok (.getfield 44, 3) := by decide +kernel
theorem dX5_ahead_81 : decode cX5_ahead 81 = .ok (.getfield 167, 3) := by decide +kernel
theorem dX5_ahead_84 : decode cX5_ahead 84 = .ok (.if_icmp .ge 38, 3) := by decide +kernel
theorem dX5_ahead_87 : decode cX5_ahead 87 = .ok (.iload 6, 2) := by decide +kernel
theorem dX5_ahead_89 : decode cX5_ahead 89 = .ok (.aload_n 0, 1) := by decide +kernel
theorem dX5_ahead_90 : decode cX5_ahead 90 = .ok (.getfield 19, 3) := by decide +kernel
theorem dX5_ahead_93 : decode cX5_ahead 93 = .ok (.aload_n 0, 1) := by decide +kernel
theorem dX5_ahead_94 : decode cX5_ahead 94 = .ok (.getfield 10, 3) := by decide +kernel
theorem dX5_ahead_97 : decode cX5_ahead 97 = .ok (.aload 4, 2) := by decide +kernel
theorem dX5_ahead_99 : decode cX5_ahead 99 = .ok (.getfield 44, 3) := by decide +kernel
theorem dX5_ahead_102 : decode cX5_ahead 102 = .ok (.iload 7, 2) := by decide +kernel
theorem dX5_ahead_104 : decode cX5_ahead 104 = .ok (.invokevirtual 99, 3) := by decide +kernel
theorem dX5_ahead_107 : decode cX5_ahead 107 = .ok (.invokevirtual 179, 3) := by decide +kernel
theorem dX5_ahead_110 : decode cX5_ahead 110 = .ok (.invokevirtual 173, 3) := by decide +kernel
theorem dX5_ahead_113 : decode cX5_ahead 113 = .ok (.iadd, 1) := by decide +kernel
theorem dX5_ahead_114 : decode cX5_ahead 114 = .ok (.istore 6, 2) := by decide +kernel
theorem dX5_ahead_116 : decode cX5_ahead 116 = .ok (.iinc 7 1, 3) := by decide +kernel
theorem dX5_ahead_119 : decode cX5_ahead 119 = .ok (.goto (-45), 3) := by decide +kernel
theorem dX5_ahead_122 : decode cX5_ahead 122 = .ok (.iload 6, 2) := by decide +kernel
theorem dX5_ahead_124 : decode cX5_ahead 124 = .ok (.ireturn, 1) := by decide +kernel
set_option maxRecDepth 20000 in
theorem ggX5_worth_X5_shelfAt : GoodIn wsX5_worth wsX5_shelfAt := goodIn_r _ [13, 14, 87, 88, 89, 90, 91, 92, 93] (by decide +kernel) (by decide +kernel)
set_option maxRecDepth 20000 in
theorem gX5_worth_X5_shelfAt : GoodIn wsX5_worth (wsV RX5 36 RX5 yX5_shelfAt wsX5_shelfAt) := goodIn_app (goodIn_of _ (by decide +kernel)) ggX5_worth_X5_shelfAt
set_option maxRecDepth 20000 in
theorem ggX5_worth_X5_cardsRefusal : GoodIn wsX5_worth wsX5_cardsRefusal := goodIn_r _ [18, 3, 4, 19, 20, 12, 21, 22, 23, 24, 25, 26, 27, 28, 29, 30, 31, 32, 33, 34, 35, 36, 37, 38, 39, 40, 41, 42, 43, 87, 88, 89, 90, 91, 92, 93, 94, 95, 96, 97, 98, 99, 100, 101, 102, 103, 104, 105, 106, 107, 108, 109] (by decide +kernel) (by decide +kernel)
set_option maxRecDepth 20000 in
theorem gX5_worth_X5_cardsRefusal : GoodIn wsX5_worth (wsV RX5 161 RX5 yX5_cardsRefusal wsX5_cardsRefusal) := goodIn_app (goodIn_of _ (by decide +kernel)) ggX5_worth_X5_cardsRefusal
set_option maxRecDepth 20000 in
theorem ggX5_worth_X0_targetAbove : GoodIn wsX5_worth wsX0_targetAbove := goodIn_r _ [47, 48, 49, 50, 51, 35, 52, 37, 38, 100, 101, 102, 103, 104, 105, 106, 107, 108, 109, 97, 98, 99] (by decide +kernel) (by decide +kernel)
set_option maxRecDepth 20000 in
theorem gX5_worth_X0_targetAbove : GoodIn wsX5_worth (wsV RX5 147 RX0 yX0_targetAbove wsX0_targetAbove) := goodIn_app (goodIn_of _ (by decide +kernel)) ggX5_worth_X0_targetAbove
set_option maxRecDepth 20000 in
theorem ggX5_worth_X0_targetLine : GoodIn wsX5_worth wsX0_targetLine := goodIn_r _ [56, 57, 31, 100, 101, 102, 103, 104, 105, 106, 107, 108, 109, 97, 98, 99] (by decide +kernel) (by decide +kernel)
set_option maxRecDepth 20000 in
theorem gX5_worth_X0_targetLine : GoodIn wsX5_worth (wsV RX5 150 RX0 yX0_targetLine wsX0_targetLine) := goodIn_app (goodIn_of _ (by decide +kernel)) ggX5_worth_X0_targetLine
set_option maxRecDepth 20000 in
theorem ggX5_worth_X5_leastPart : GoodIn wsX5_worth wsX5_leastPart := goodIn_r _ [60, 61, 62, 12, 63, 64, 65, 66] (by decide +kernel) (by decide +kernel)
set_option maxRecDepth 20000 in
theorem gX5_worth_X5_leastPart : GoodIn wsX5_worth (va_wsS RX5 153 yX5_leastPart wsX5_leastPart) := goodIn_app (goodIn_of _ (by decide +kernel)) ggX5_worth_X5_leastPart
set_option maxRecDepth 20000 in
theorem ggX5_worth_X0_stepped : GoodIn wsX5_worth wsX0_stepped := goodIn_r _ [70, 71, 72, 73, 29, 74, 43, 75, 76, 77, 78, 79, 80, 81, 82, 48, 57, 65, 12, 66, 83, 84, 85, 86, 100, 101, 102, 103, 104, 105, 106, 107, 108, 109] (by decide +kernel) (by decide +kernel)
set_option maxRecDepth 20000 in
theorem gX5_worth_X0_stepped : GoodIn wsX5_worth (wsV RX5 173 RX0 yX0_stepped wsX0_stepped) := goodIn_app (goodIn_of _ (by decide +kernel)) ggX5_worth_X0_stepped
theorem dX5_worth_0 : decode cX5_worth 0 = .ok (.aload_n 0, 1) := by decide +kernel
theorem dX5_worth_1 : decode cX5_worth 1 = .ok (.iload_n 1, 1) := by decide +kernel
theorem dX5_worth_2 : decode cX5_worth 2 = .ok (.invokevirtual 36, 3) := by decide +kernel
theorem dX5_worth_5 : decode cX5_worth 5 = .ok (.astore_n 3, 1) := by decide +kernel
theorem dX5_worth_6 : decode cX5_worth 6 = .ok (.iload_n 2, 1) := by decide +kernel
theorem dX5_worth_7 : decode cX5_worth 7 = .ok (.ifCond .lt 9, 3) := by decide +kernel
theorem dX5_worth_10 : decode cX5_worth 10 = .ok (.iload_n 2, 1) := by decide +kernel
theorem dX5_worth_11 : decode cX5_worth 11 = .ok (.bipush 9, 2) := by decide +kernel
theorem dX5_worth_13 : decode cX5_worth 13 = .ok (.if_icmp .lt 7, 3) := by decide +kernel
theorem dX5_worth_16 : decode cX5_worth 16 = .ok (.ldc2_w 196, 3) := by decide +kernel
theorem dX5_worth_19 : decode cX5_worth 19 = .ok (.lreturn, 1) := by decide +kernel
theorem dX5_worth_20 : decode cX5_worth 20 = .ok (.aload_n 0, 1) := by decide +kernel
theorem dX5_worth_21 : decode cX5_worth 21 = .ok (.aload_n 3, 1) := by decide +kernel
theorem dX5_worth_22 : decode cX5_worth 22 = .ok (.invokevirtual 161, 3) := by decide +kernel
theorem dX5_worth_25 : decode cX5_worth 25 = .ok (.istore 4, 2) := by decide +kernel
theorem dX5_worth_27 : decode cX5_worth 27 = .ok (.iload 4, 2) := by decide +kernel
theorem dX5_worth_29 : decode cX5_worth 29 = .ok (.ifCond .eq 11, 3) := by decide +kernel
theorem dX5_worth_32 : decode cX5_worth 32 = .ok (.ldc2_w 198, 3) := by decide +kernel
theorem dX5_worth_35 : decode cX5_worth 35 = .ok (.iload 4, 2) := by decide +kernel
theorem dX5_worth_37 : decode cX5_worth 37 = .ok (.i2l, 1) := by decide +kernel
theorem dX5_worth_38 : decode cX5_worth 38 = .ok (.ladd, 1) := by decide +kernel
theorem dX5_worth_39 : decode cX5_worth 39 = .ok (.lreturn, 1) := by decide +kernel
theorem dX5_worth_40 : decode cX5_worth 40 = .ok (.aload_n 0, 1) := by decide +kernel
theorem dX5_worth_41 : decode cX5_worth 41 = .ok (.getfield 10, 3) := by decide +kernel
theorem dX5_worth_44 : decode cX5_worth 44 = .ok (.aload_n 3, 1) := by decide +kernel
theorem dX5_worth_45 : decode cX5_worth 45 = .ok (.getfield 44, 3) := by decide +kernel
theorem dX5_worth_48 : decode cX5_worth 48 = .ok (.invokevirtual 147, 3) := by decide +kernel
theorem dX5_worth_51 : decode cX5_worth 51 = .ok (.aload_n 0, 1) := by decide +kernel
theorem dX5_worth_52 : decode cX5_worth 52 = .ok (.getfield 10, 3) := by decide +kernel
theorem dX5_worth_55 : decode cX5_worth 55 = .ok (.aload_n 3, 1) := by decide +kernel
theorem dX5_worth_56 : decode cX5_worth 56 = .ok (.getfield 44, 3) := by decide +kernel
theorem dX5_worth_59 : decode cX5_worth 59 = .ok (.invokevirtual 150, 3) := by decide +kernel
theorem dX5_worth_62 : decode cX5_worth 62 = .ok (.iconst 0, 1) := by decide +kernel
theorem dX5_worth_63 : decode cX5_worth 63 = .ok (.invokestatic 153, 3) := by decide +kernel
theorem dX5_worth_66 : decode cX5_worth 66 = .ok (.istore 5, 2) := by decide +kernel
theorem dX5_worth_68 : decode cX5_worth 68 = .ok (.aload_n 0, 1) := by decide +kernel
theorem dX5_worth_69 : decode cX5_worth 69 = .ok (.getfield 10, 3) := by decide +kernel
theorem dX5_worth_72 : decode cX5_worth 72 = .ok (.aload_n 3, 1) := by decide +kernel
theorem dX5_worth_73 : decode cX5_worth 73 = .ok (.getfield 44, 3) := by decide +kernel
theorem dX5_worth_76 : decode cX5_worth 76 = .ok (.invokevirtual 147, 3) := by decide +kernel
theorem dX5_worth_79 : decode cX5_worth 79 = .ok (.aload_n 0, 1) := by decide +kernel
theorem dX5_worth_80 : decode cX5_worth 80 = .ok (.getfield 10, 3) := by decide +kernel
theorem dX5_worth_83 : decode cX5_worth 83 = .ok (.aload_n 3, 1) := by decide +kernel
theorem dX5_worth_84 : decode cX5_worth 84 = .ok (.getfield 44, 3) := by decide +kernel
theorem dX5_worth_87 : decode cX5_worth 87 = .ok (.invokevirtual 150, 3) := by decide +kernel
theorem dX5_worth_90 : decode cX5_worth 90 = .ok (.iconst 1, 1) := by decide +kernel
theorem dX5_worth_91 : decode cX5_worth 91 = .ok (.invokestatic 153, 3) := by decide +kernel
theorem dX5_worth_94 : decode cX5_worth 94 = .ok (.istore 6, 2) := by decide +kernel
theorem dX5_worth_96 : decode cX5_worth 96 = .ok (.aload_n 0, 1) := by decide +kernel
theorem dX5_worth_97 : decode cX5_worth 97 = .ok (.getfield 10, 3) := by decide +kernel
theorem dX5_worth_100 : decode cX5_worth 100 = .ok (.iload_n 2, 1) := by decide +kernel
theorem dX5_worth_101 : decode cX5_worth 101 = .ok (.invokevirtual 173, 3) := by decide +kernel
theorem dX5_worth_104 : decode cX5_worth 104 = .ok (.iload 6, 2) := by decide +kernel
theorem dX5_worth_106 : decode cX5_worth 106 = .ok (.imul, 1) := by decide +kernel
theorem dX5_worth_107 : decode cX5_worth 107 = .ok (.iload 5, 2) := by decide +kernel
theorem dX5_worth_109 : decode cX5_worth 109 = .ok (.isub, 1) := by decide +kernel
theorem dX5_worth_110 : decode cX5_worth 110 = .ok (.invokestatic 200, 3) := by decide +kernel
theorem dX5_worth_113 : decode cX5_worth 113 = .ok (.istore 7, 2) := by decide +kernel
theorem dX5_worth_115 : decode cX5_worth 115 = .ok (.aload_n 0, 1) := by decide +kernel
theorem dX5_worth_116 : decode cX5_worth 116 = .ok (.getfield 10, 3) := by decide +kernel
theorem dX5_worth_119 : decode cX5_worth 119 = .ok (.iload_n 2, 1) := by decide +kernel
theorem dX5_worth_120 : decode cX5_worth 120 = .ok (.iconst 1, 1) := by decide +kernel
theorem dX5_worth_121 : decode cX5_worth 121 = .ok (.iadd, 1) := by decide +kernel
theorem dX5_worth_122 : decode cX5_worth 122 = .ok (.invokevirtual 173, 3) := by decide +kernel
theorem dX5_worth_125 : decode cX5_worth 125 = .ok (.iload 6, 2) := by decide +kernel
theorem dX5_worth_127 : decode cX5_worth 127 = .ok (.imul, 1) := by decide +kernel
theorem dX5_worth_128 : decode cX5_worth 128 = .ok (.iload 5, 2) := by decide +kernel
theorem dX5_worth_130 : decode cX5_worth 130 = .ok (.isub, 1) := by decide +kernel
theorem dX5_worth_131 : decode cX5_worth 131 = .ok (.invokestatic 200, 3) := by decide +kernel
theorem dX5_worth_134 : decode cX5_worth 134 = .ok (.istore 8, 2) := by decide +kernel
theorem dX5_worth_136 : decode cX5_worth 136 = .ok (.iload 7, 2) := by decide +kernel
theorem dX5_worth_138 : decode cX5_worth 138 = .ok (.iload 8, 2) := by decide +kernel
theorem dX5_worth_140 : decode cX5_worth 140 = .ok (.isub, 1) := by decide +kernel
theorem dX5_worth_141 : decode cX5_worth 141 = .ok (.i2l, 1) := by decide +kernel
theorem dX5_worth_142 : decode cX5_worth 142 = .ok (.lreturn, 1) := by decide +kernel
set_option maxRecDepth 20000 in
theorem ggX5_jokers_X5_shelfAt : GoodIn wsX5_jokers wsX5_shelfAt := goodIn_r _ [11, 12, 68, 69, 70, 71, 72, 73, 74] (by decide +kernel) (by decide +kernel)
set_option maxRecDepth 20000 in
theorem gX5_jokers_X5_shelfAt : GoodIn wsX5_jokers (wsV RX5 36 RX5 yX5_shelfAt wsX5_shelfAt) := goodIn_app (goodIn_of _ (by decide +kernel)) ggX5_jokers_X5_shelfAt
set_option maxRecDepth 20000 in
theorem ggX5_jokers_X5_isOneOfTwo : GoodIn wsX5_jokers wsX5_isOneOfTwo := goodIn_r _ [15] (by decide +kernel) (by decide +kernel)
set_option maxRecDepth 20000 in
theorem gX5_jokers_X5_isOneOfTwo : GoodIn wsX5_jokers (va_wsS RX5 144 yX5_isOneOfTwo wsX5_isOneOfTwo) := goodIn_app (goodIn_of _ (by decide +kernel)) ggX5_jokers_X5_isOneOfTwo
set_option maxRecDepth 20000 in
theorem ggX5_jokers_X5_cardsRefusal : GoodIn wsX5_jokers wsX5_cardsRefusal := goodIn_r _ [19, 3, 1, 20, 21, 10, 22, 23, 24, 25, 26, 27, 28, 29, 30, 31, 32, 33, 34, 35, 36, 37, 38, 39, 40, 41, 42, 43, 44, 68, 69, 70, 71, 72, 73, 74, 62, 63, 64, 65, 66, 67, 75, 76, 77, 78, 79, 80, 81, 82, 83, 84] (by decide +kernel) (by decide +kernel)
set_option maxRecDepth 20000 in
theorem gX5_jokers_X5_cardsRefusal : GoodIn wsX5_jokers (wsV RX5 161 RX5 yX5_cardsRefusal wsX5_cardsRefusal) := goodIn_app (goodIn_of _ (by decide +kernel)) ggX5_jokers_X5_cardsRefusal
set_option maxRecDepth 20000 in
theorem ggX5_jokers_X3_sum : GoodIn wsX5_jokers wsX3_sum := goodIn_r _ [48, 38, 39, 65, 66, 67] (by decide +kernel) (by decide +kernel)
set_option maxRecDepth 20000 in
theorem gX5_jokers_X3_sum : GoodIn wsX5_jokers (wsV RX5 164 RX3 yX3_sum wsX3_sum) := goodIn_app (goodIn_of _ (by decide +kernel)) ggX5_jokers_X3_sum
set_option maxRecDepth 20000 in
theorem ggX5_jokers_X3_countOf : GoodIn wsX5_jokers wsX3_countOf := goodIn_r _ [52, 38, 39, 65, 66, 67] (by decide +kernel) (by decide +kernel)
set_option maxRecDepth 20000 in
theorem gX5_jokers_X3_countOf : GoodIn wsX5_jokers (wsV RX5 208 RX3 yX3_countOf wsX3_countOf) := goodIn_app (goodIn_of _ (by decide +kernel)) ggX5_jokers_X3_countOf
set_option maxRecDepth 20000 in
theorem ggX5_jokers_X5_leastPart : GoodIn wsX5_jokers wsX5_leastPart := goodIn_r _ [55, 56, 57, 10, 58, 59, 60, 61] (by decide +kernel) (by decide +kernel)
set_option maxRecDepth 20000 in
theorem gX5_jokers_X5_leastPart : GoodIn wsX5_jokers (va_wsS RX5 153 yX5_leastPart wsX5_leastPart) := goodIn_app (goodIn_of _ (by decide +kernel)) ggX5_jokers_X5_leastPart
theorem dX5_jokers_0 : decode cX5_jokers 0 = .ok (.aload_n 0, 1) := by decide +kernel
theorem dX5_jokers_1 : decode cX5_jokers 1 = .ok (.iload_n 1, 1) := by decide +kernel
theorem dX5_jokers_2 : decode cX5_jokers 2 = .ok (.invokevirtual 36, 3) := by decide +kernel
theorem dX5_jokers_5 : decode cX5_jokers 5 = .ok (.astore_n 3, 1) := by decide +kernel
theorem dX5_jokers_6 : decode cX5_jokers 6 = .ok (.iload_n 2, 1) := by decide +kernel
theorem dX5_jokers_7 : decode cX5_jokers 7 = .ok (.invokestatic 144, 3) := by decide +kernel
theorem dX5_jokers_10 : decode cX5_jokers 10 = .ok (.ifCond .ne 5, 3) := by decide +kernel
theorem dX5_jokers_13 : decode cX5_jokers 13 = .ok (.iconst (-1), 1) := by decide +kernel
theorem dX5_jokers_14 : decode cX5_jokers 14 = .ok (.ireturn, 1) := by decide +kernel
theorem dX5_jokers_15 : decode cX5_jokers 15 = .ok (.aload_n 0, 1) := by decide +kernel
theorem dX5_jokers_16 : decode cX5_jokers 16 = .ok (.aload_n 3, 1) := by decide +kernel
theorem dX5_jokers_17 : decode cX5_jokers 17 = .ok (.invokevirtual 161, 3) := by decide +kernel
theorem dX5_jokers_20 : decode cX5_jokers 20 = .ok (.istore 4, 2) := by decide +kernel
theorem dX5_jokers_22 : decode cX5_jokers 22 = .ok (.iload 4, 2) := by decide +kernel
theorem dX5_jokers_24 : decode cX5_jokers 24 = .ok (.ifCond .eq 6, 3) := by decide +kernel
theorem dX5_jokers_27 : decode cX5_jokers 27 = .ok (.iload 4, 2) := by decide +kernel
theorem dX5_jokers_29 : decode cX5_jokers 29 = .ok (.ireturn, 1) := by decide +kernel
theorem dX5_jokers_30 : decode cX5_jokers 30 = .ok (.aload_n 3, 1) := by decide +kernel
theorem dX5_jokers_31 : decode cX5_jokers 31 = .ok (.getfield 44, 3) := by decide +kernel
theorem dX5_jokers_34 : decode cX5_jokers 34 = .ok (.getfield 167, 3) := by decide +kernel
theorem dX5_jokers_37 : decode cX5_jokers 37 = .ok (.istore 5, 2) := by decide +kernel
theorem dX5_jokers_39 : decode cX5_jokers 39 = .ok (.aload_n 3, 1) := by decide +kernel
theorem dX5_jokers_40 : decode cX5_jokers 40 = .ok (.getfield 44, 3) := by decide +kernel
theorem dX5_jokers_43 : decode cX5_jokers 43 = .ok (.invokevirtual 164, 3) := by decide +kernel
theorem dX5_jokers_46 : decode cX5_jokers 46 = .ok (.istore 6, 2) := by decide +kernel
theorem dX5_jokers_48 : decode cX5_jokers 48 = .ok (.iload 5, 2) := by decide +kernel
theorem dX5_jokers_50 : decode cX5_jokers 50 = .ok (.aload_n 3, 1) := by decide +kernel
theorem dX5_jokers_51 : decode cX5_jokers 51 = .ok (.getfield 44, 3) := by decide +kernel
theorem dX5_jokers_54 : decode cX5_jokers 54 = .ok (.aload_n 0, 1) := by decide +kernel
theorem dX5_jokers_55 : decode cX5_jokers 55 = .ok (.getfield 10, 3) := by decide +kernel
theorem dX5_jokers_58 : decode cX5_jokers 58 = .ok (.getfield 205, 3) := by decide +kernel
theorem dX5_jokers_61 : decode cX5_jokers 61 = .ok (.invokevirtual 208, 3) := by decide +kernel
theorem dX5_jokers_64 : decode cX5_jokers 64 = .ok (.isub, 1) := by decide +kernel
theorem dX5_jokers_65 : decode cX5_jokers 65 = .ok (.istore 7, 2) := by decide +kernel
theorem dX5_jokers_67 : decode cX5_jokers 67 = .ok (.iload 6, 2) := by decide +kernel
theorem dX5_jokers_69 : decode cX5_jokers 69 = .ok (.iload 5, 2) := by decide +kernel
theorem dX5_jokers_71 : decode cX5_jokers 71 = .ok (.iload 7, 2) := by decide +kernel
theorem dX5_jokers_73 : decode cX5_jokers 73 = .ok (.isub, 1) := by decide +kernel
theorem dX5_jokers_74 : decode cX5_jokers 74 = .ok (.aload_n 0, 1) := by decide +kernel
theorem dX5_jokers_75 : decode cX5_jokers 75 = .ok (.getfield 10, 3) := by decide +kernel
theorem dX5_jokers_78 : decode cX5_jokers 78 = .ok (.getfield 205, 3) := by decide +kernel
theorem dX5_jokers_81 : decode cX5_jokers 81 = .ok (.imul, 1) := by decide +kernel
theorem dX5_jokers_82 : decode cX5_jokers 82 = .ok (.isub, 1) := by decide +kernel
theorem dX5_jokers_83 : decode cX5_jokers 83 = .ok (.istore 8, 2) := by decide +kernel
theorem dX5_jokers_85 : decode cX5_jokers 85 = .ok (.iload 7, 2) := by decide +kernel
theorem dX5_jokers_87 : decode cX5_jokers 87 = .ok (.ifCond .ne 28, 3) := by decide +kernel
theorem dX5_jokers_90 : decode cX5_jokers 90 = .ok (.aload_n 0, 1) := by decide +kernel
theorem dX5_jokers_91 : decode cX5_jokers 91 = .ok (.getfield 10, 3) := by decide +kernel
theorem dX5_jokers_94 : decode cX5_jokers 94 = .ok (.getfield 190, 3) := by decide +kernel
theorem dX5_jokers_97 : decode cX5_jokers 97 = .ok (.iload 6, 2) := by decide +kernel
theorem dX5_jokers_99 : decode cX5_jokers 99 = .ok (.imul, 1) := by decide +kernel
theorem dX5_jokers_100 : decode cX5_jokers 100 = .ok (.aload_n 0, 1) := by decide +kernel
theorem dX5_jokers_101 : decode cX5_jokers 101 = .ok (.getfield 10, 3) := by decide +kernel
theorem dX5_jokers_104 : decode cX5_jokers 104 = .ok (.getfield 193, 3) := by decide +kernel
theorem dX5_jokers_107 : decode cX5_jokers 107 = .ok (.iload 5, 2) := by decide +kernel
theorem dX5_jokers_109 : decode cX5_jokers 109 = .ok (.imul, 1) := by decide +kernel
theorem dX5_jokers_110 : decode cX5_jokers 110 = .ok (.iload_n 2, 1) := by decide +kernel
theorem dX5_jokers_111 : decode cX5_jokers 111 = .ok (.invokestatic 153, 3) := by decide +kernel
theorem dX5_jokers_114 : decode cX5_jokers 114 = .ok (.ireturn, 1) := by decide +kernel
theorem dX5_jokers_115 : decode cX5_jokers 115 = .ok (.aload_n 0, 1) := by decide +kernel
theorem dX5_jokers_116 : decode cX5_jokers 116 = .ok (.getfield 10, 3) := by decide +kernel
theorem dX5_jokers_119 : decode cX5_jokers 119 = .ok (.getfield 190, 3) := by decide +kernel
theorem dX5_jokers_122 : decode cX5_jokers 122 = .ok (.iload 6, 2) := by decide +kernel
theorem dX5_jokers_124 : decode cX5_jokers 124 = .ok (.iload 7, 2) := by decide +kernel
theorem dX5_jokers_126 : decode cX5_jokers 126 = .ok (.imul, 1) := by decide +kernel
theorem dX5_jokers_127 : decode cX5_jokers 127 = .ok (.iload 8, 2) := by decide +kernel
theorem dX5_jokers_129 : decode cX5_jokers 129 = .ok (.iload 5, 2) := by decide +kernel
theorem dX5_jokers_131 : decode cX5_jokers 131 = .ok (.imul, 1) := by decide +kernel
theorem dX5_jokers_132 : decode cX5_jokers 132 = .ok (.isub, 1) := by decide +kernel
theorem dX5_jokers_133 : decode cX5_jokers 133 = .ok (.imul, 1) := by decide +kernel
theorem dX5_jokers_134 : decode cX5_jokers 134 = .ok (.istore 9, 2) := by decide +kernel
theorem dX5_jokers_136 : decode cX5_jokers 136 = .ok (.iload 9, 2) := by decide +kernel
theorem dX5_jokers_138 : decode cX5_jokers 138 = .ok (.aload_n 0, 1) := by decide +kernel
theorem dX5_jokers_139 : decode cX5_jokers 139 = .ok (.getfield 10, 3) := by decide +kernel
theorem dX5_jokers_142 : decode cX5_jokers 142 = .ok (.getfield 193, 3) := by decide +kernel
theorem dX5_jokers_145 : decode cX5_jokers 145 = .ok (.iload 5, 2) := by decide +kernel
theorem dX5_jokers_147 : decode cX5_jokers 147 = .ok (.imul, 1) := by decide +kernel
theorem dX5_jokers_148 : decode cX5_jokers 148 = .ok (.iload 7, 2) := by decide +kernel
theorem dX5_jokers_150 : decode cX5_jokers 150 = .ok (.imul, 1) := by decide +kernel
theorem dX5_jokers_151 : decode cX5_jokers 151 = .ok (.iload_n 2, 1) := by decide +kernel
theorem dX5_jokers_152 : decode cX5_jokers 152 = .ok (.invokestatic 153, 3) := by decide +kernel
theorem dX5_jokers_155 : decode cX5_jokers 155 = .ok (.ireturn, 1) := by decide +kernel
set_option maxRecDepth 20000 in
theorem ggX5_differ_X5_shelfAt : GoodIn wsX5_differ wsX5_shelfAt := goodIn_r _ [14, 15, 67, 68, 69, 70, 71, 72, 73] (by decide +kernel) (by decide +kernel)
set_option maxRecDepth 20000 in
theorem gX5_differ_X5_shelfAt : GoodIn wsX5_differ (wsV RX5 36 RX5 yX5_shelfAt wsX5_shelfAt) := goodIn_app (goodIn_of _ (by decide +kernel)) ggX5_differ_X5_shelfAt
set_option maxRecDepth 20000 in
theorem ggX5_differ_X5_twoRowsRefusal : GoodIn wsX5_differ wsX5_twoRowsRefusal := goodIn_r _ [18, 19, 74, 75, 76] (by decide +kernel) (by decide +kernel)
set_option maxRecDepth 20000 in
theorem gX5_differ_X5_twoRowsRefusal : GoodIn wsX5_differ (va_wsS RX5 182 yX5_twoRowsRefusal wsX5_twoRowsRefusal) := goodIn_app (goodIn_of _ (by decide +kernel)) ggX5_differ_X5_twoRowsRefusal
set_option maxRecDepth 20000 in
theorem ggX5_differ_X0_areCards : GoodIn wsX5_differ wsX0_areCards := goodIn_r _ [24, 25, 26, 27, 28, 29, 30, 31, 32, 33, 34, 35, 23, 36, 37, 77, 78, 79, 80, 81, 82, 83, 84, 85, 86, 87, 88, 89] (by decide +kernel) (by decide +kernel)
set_option maxRecDepth 20000 in
theorem gX5_differ_X0_areCards : GoodIn wsX5_differ (wsV RX5 186 RX0 yX0_areCards wsX0_areCards) := goodIn_app (goodIn_of _ (by decide +kernel)) ggX5_differ_X0_areCards
set_option maxRecDepth 20000 in
theorem ggX5_differ_X0_countSteps : GoodIn wsX5_differ wsX0_countSteps := goodIn_r _ [41, 25, 42, 43, 44, 45, 26, 27, 28, 29, 30, 31, 32, 46, 47, 48, 23, 49, 50, 7, 8, 9, 51, 52, 53, 54, 37, 55, 56, 57, 58, 59, 60, 61, 13, 62, 63, 64, 65, 66, 77, 78, 79, 80, 81, 82, 83, 84, 85, 86, 87, 88, 89] (by decide +kernel) (by decide +kernel)
set_option maxRecDepth 20000 in
theorem gX5_differ_X0_countSteps : GoodIn wsX5_differ (wsV RX5 211 RX0 yX0_countSteps wsX0_countSteps) := goodIn_app (goodIn_of _ (by decide +kernel)) ggX5_differ_X0_countSteps
theorem dX5_differ_0 : decode cX5_differ 0 = .ok (.aload_n 0, 1) := by decide +kernel
theorem dX5_differ_1 : decode cX5_differ 1 = .ok (.iload_n 1, 1) := by decide +kernel
theorem dX5_differ_2 : decode cX5_differ 2 = .ok (.invokevirtual 36, 3) := by decide +kernel
theorem dX5_differ_5 : decode cX5_differ 5 = .ok (.astore_n 3, 1) := by decide +kernel
theorem dX5_differ_6 : decode cX5_differ 6 = .ok (.aload_n 0, 1) := by decide +kernel
theorem dX5_differ_7 : decode cX5_differ 7 = .ok (.iload_n 2, 1) := by decide +kernel
theorem dX5_differ_8 : decode cX5_differ 8 = .ok (.invokevirtual 36, 3) := by decide +kernel
theorem dX5_differ_11 : decode cX5_differ 11 = .ok (.astore 4, 2) := by decide +kernel
theorem dX5_differ_13 : decode cX5_differ 13 = .ok (.aload_n 3, 1) := by decide +kernel
theorem dX5_differ_14 : decode cX5_differ 14 = .ok (.aload 4, 2) := by decide +kernel
theorem dX5_differ_16 : decode cX5_differ 16 = .ok (.invokestatic 182, 3) := by decide +kernel
theorem dX5_differ_19 : decode cX5_differ 19 = .ok (.istore 5, 2) := by decide +kernel
theorem dX5_differ_21 : decode cX5_differ 21 = .ok (.iload 5, 2) := by decide +kernel
theorem dX5_differ_23 : decode cX5_differ 23 = .ok (.ifCond .eq 6, 3) := by decide +kernel
theorem dX5_differ_26 : decode cX5_differ 26 = .ok (.iload 5, 2) := by decide +kernel
theorem dX5_differ_28 : decode cX5_differ 28 = .ok (.ireturn, 1) := by decide +kernel
theorem dX5_differ_29 : decode cX5_differ 29 = .ok (.aload_n 0, 1) := by decide +kernel
theorem dX5_differ_30 : decode cX5_differ 30 = .ok (.getfield 10, 3) := by decide +kernel
theorem dX5_differ_33 : decode cX5_differ 33 = .ok (.aload_n 3, 1) := by decide +kernel
theorem dX5_differ_34 : decode cX5_differ 34 = .ok (.getfield 44, 3) := by decide +kernel
theorem dX5_differ_37 : decode cX5_differ 37 = .ok (.invokevirtual 186, 3) := by decide +kernel
theorem dX5_differ_40 : decode cX5_differ 40 = .ok (.ifCond .eq 18, 3) := by decide +kernel
theorem dX5_differ_43 : decode cX5_differ 43 = .ok (.aload_n 0, 1) := by decide +kernel
theorem dX5_differ_44 : decode cX5_differ 44 = .ok (.getfield 10, 3) := by decide +kernel
theorem dX5_differ_47 : decode cX5_differ 47 = .ok (.aload 4, 2) := by decide +kernel
theorem dX5_differ_49 : decode cX5_differ 49 = .ok (.getfield 44, 3) := by decide +kernel
theorem dX5_differ_52 : decode cX5_differ 52 = .ok (.invokevirtual 186, 3) := by decide +kernel
theorem dX5_differ_55 : decode cX5_differ 55 = .ok (.ifCond .ne 6, 3) := by decide +kernel
theorem dX5_differ_58 : decode cX5_differ 58 = .ok (.bipush (-13), 2) := by decide +kernel
theorem dX5_differ_60 : decode cX5_differ 60 = .ok (.ireturn, 1) := by decide +kernel
theorem dX5_differ_61 : decode cX5_differ 61 = .ok (.aload_n 0, 1) := by decide +kernel
theorem dX5_differ_62 : decode cX5_differ 62 = .ok (.getfield 10, 3) := by decide +kernel
theorem dX5_differ_65 : decode cX5_differ 65 = .ok (.aload_n 3, 1) := by decide +kernel
theorem dX5_differ_66 : decode cX5_differ 66 = .ok (.getfield 44, 3) := by decide +kernel
theorem dX5_differ_69 : decode cX5_differ 69 = .ok (.aload_n 0, 1) := by decide +kernel
theorem dX5_differ_70 : decode cX5_differ 70 = .ok (.getfield 29, 3) := by decide +kernel
theorem dX5_differ_73 : decode cX5_differ 73 = .ok (.invokevirtual 211, 3) := by decide +kernel
theorem dX5_differ_76 : decode cX5_differ 76 = .ok (.aload_n 0, 1) := by decide +kernel
theorem dX5_differ_77 : decode cX5_differ 77 = .ok (.getfield 10, 3) := by decide +kernel
theorem dX5_differ_80 : decode cX5_differ 80 = .ok (.aload 4, 2) := by decide +kernel
theorem dX5_differ_82 : decode cX5_differ 82 = .ok (.getfield 44, 3) := by decide +kernel
theorem dX5_differ_85 : decode cX5_differ 85 = .ok (.aload_n 0, 1) := by decide +kernel
theorem dX5_differ_86 : decode cX5_differ 86 = .ok (.getfield 33, 3) := by decide +kernel
theorem dX5_differ_89 : decode cX5_differ 89 = .ok (.invokevirtual 211, 3) := by decide +kernel
theorem dX5_differ_92 : decode cX5_differ 92 = .ok (.iconst 0, 1) := by decide +kernel
theorem dX5_differ_93 : decode cX5_differ 93 = .ok (.istore 6, 2) := by decide +kernel
theorem dX5_differ_95 : decode cX5_differ 95 = .ok (.iconst 0, 1) := by decide +kernel
theorem dX5_differ_96 : decode cX5_differ 96 = .ok (.istore 7, 2) := by decide +kernel
theorem dX5_differ_98 : decode cX5_differ 98 = .ok (.iload 7, 2) := by decide +kernel
theorem dX5_differ_100 : decode cX5_differ 100 = .ok (.bipush 9, 2) := by decide +kernel
theorem dX5_differ_102 : decode cX5_differ 102 = .ok (.if_icmp .gt 49, 3) := by decide +kernel
theorem dX5_differ_105 : decode cX5_differ 105 = .ok (.iload 6, 2) := by decide +kernel
theorem dX5_differ_107 : decode cX5_differ 107 = .ok (.aload_n 0, 1) := by decide +kernel
theorem dX5_differ_108 : decode cX5_differ 108 = .ok (.getfield 29, 3) := by decide +kernel
theorem dX5_differ_111 : decode cX5_differ 111 = .ok (.iload 7, 2) := by decide +kernel
theorem dX5_differ_113 : decode cX5_differ 113 = .ok (.iaload, 1) := by decide +kernel
theorem dX5_differ_114 : decode cX5_differ 114 = .ok (.aload 4, 2) := by decide +kernel
theorem dX5_differ_116 : decode cX5_differ 116 = .ok (.getfield 44, 3) := by decide +kernel
theorem dX5_differ_119 : decode cX5_differ 119 = .ok (.getfield 167, 3) := by decide +kernel
theorem dX5_differ_122 : decode cX5_differ 122 = .ok (.imul, 1) := by decide +kernel
theorem dX5_differ_123 : decode cX5_differ 123 = .ok (.aload_n 0, 1) := by decide +kernel
theorem dX5_differ_124 : decode cX5_differ 124 = .ok (.getfield 33, 3) := by decide +kernel
theorem dX5_differ_127 : decode cX5_differ 127 = .ok (.iload 7, 2) := by decide +kernel
theorem dX5_differ_129 : decode cX5_differ 129 = .ok (.iaload, 1) := by decide +kernel
theorem dX5_differ_130 : decode cX5_differ 130 = .ok (.aload_n 3, 1) := by decide +kernel
theorem dX5_differ_131 : decode cX5_differ 131 = .ok (.getfield 44, 3) := by decide +kernel
theorem dX5_differ_134 : decode cX5_differ 134 = .ok (.getfield 167, 3) := by decide +kernel
theorem dX5_differ_137 : decode cX5_differ 137 = .ok (.imul, 1) := by decide +kernel
theorem dX5_differ_138 : decode cX5_differ 138 = .ok (.isub, 1) := by decide +kernel
theorem dX5_differ_139 : decode cX5_differ 139 = .ok (.invokestatic 200, 3) := by decide +kernel
theorem dX5_differ_142 : decode cX5_differ 142 = .ok (.iadd, 1) := by decide +kernel
theorem dX5_differ_143 : decode cX5_differ 143 = .ok (.istore 6, 2) := by decide +kernel
theorem dX5_differ_145 : decode cX5_differ 145 = .ok (.iinc 7 1, 3) := by decide +kernel
theorem dX5_differ_148 : decode cX5_differ 148 = .ok (.goto (-50), 3) := by decide +kernel
theorem dX5_differ_151 : decode cX5_differ 151 = .ok (.iload 6, 2) := by decide +kernel
theorem dX5_differ_153 : decode cX5_differ 153 = .ok (.ireturn, 1) := by decide +kernel
set_option maxRecDepth 20000 in
theorem ggX5_judge_X5_shelfAt : GoodIn wsX5_judge wsX5_shelfAt := goodIn_r _ [11, 12, 33, 34, 35, 36, 37, 38, 39] (by decide +kernel) (by decide +kernel)
set_option maxRecDepth 20000 in
theorem gX5_judge_X5_shelfAt : GoodIn wsX5_judge (wsV RX5 36 RX5 yX5_shelfAt wsX5_shelfAt) := goodIn_app (goodIn_of _ (by decide +kernel)) ggX5_judge_X5_shelfAt
set_option maxRecDepth 20000 in
theorem ggX5_judge_X5_rowRefusal : GoodIn wsX5_judge wsX5_rowRefusal := goodIn_r _ [15, 16, 17, 10, 18, 19, 50, 51, 52] (by decide +kernel) (by decide +kernel)
set_option maxRecDepth 20000 in
theorem gX5_judge_X5_rowRefusal : GoodIn wsX5_judge (va_wsS RX5 40 yX5_rowRefusal wsX5_rowRefusal) := goodIn_app (goodIn_of _ (by decide +kernel)) ggX5_judge_X5_rowRefusal
set_option maxRecDepth 20000 in
theorem ggX5_judge_X3_leastNumber : GoodIn wsX5_judge wsX3_leastNumber := goodIn_r _ [24, 25, 26, 53, 54, 55] (by decide +kernel) (by decide +kernel)
set_option maxRecDepth 20000 in
theorem gX5_judge_X3_leastNumber : GoodIn wsX5_judge (wsV RX5 215 RX3 yX3_leastNumber wsX3_leastNumber) := goodIn_app (goodIn_of _ (by decide +kernel)) ggX5_judge_X3_leastNumber
set_option maxRecDepth 20000 in
theorem ggX5_judge_X3_at : GoodIn wsX5_judge wsX3_at := goodIn_r _ [30, 31, 32, 53, 54, 55] (by decide +kernel) (by decide +kernel)
set_option maxRecDepth 20000 in
theorem gX5_judge_X3_at : GoodIn wsX5_judge (wsV RX5 99 RX3 yX3_at wsX3_at) := goodIn_app (goodIn_of _ (by decide +kernel)) ggX5_judge_X3_at
theorem dX5_judge_0 : decode cX5_judge 0 = .ok (.aload_n 0, 1) := by decide +kernel
theorem dX5_judge_1 : decode cX5_judge 1 = .ok (.iload_n 1, 1) := by decide +kernel
theorem dX5_judge_2 : decode cX5_judge 2 = .ok (.invokevirtual 36, 3) := by decide +kernel
theorem dX5_judge_5 : decode cX5_judge 5 = .ok (.astore_n 2, 1) := by decide +kernel
theorem dX5_judge_6 : decode cX5_judge 6 = .ok (.aload_n 2, 1) := by decide +kernel
theorem dX5_judge_7 : decode cX5_judge 7 = .ok (.ifnonnull 5, 3) := by decide +kernel
theorem dX5_judge_10 : decode cX5_judge 10 = .ok (.iconst (-1), 1) := by decide +kernel
theorem dX5_judge_11 : decode cX5_judge 11 = .ok (.ireturn, 1) := by decide +kernel
theorem dX5_judge_12 : decode cX5_judge 12 = .ok (.aload_n 0, 1) := by decide +kernel
theorem dX5_judge_13 : decode cX5_judge 13 = .ok (.getfield 10, 3) := by decide +kernel
theorem dX5_judge_16 : decode cX5_judge 16 = .ok (.getfield 93, 3) := by decide +kernel
theorem dX5_judge_19 : decode cX5_judge 19 = .ok (.ifCond .ne 6, 3) := by decide +kernel
theorem dX5_judge_22 : decode cX5_judge 22 = .ok (.bipush (-3), 2) := by decide +kernel
theorem dX5_judge_24 : decode cX5_judge 24 = .ok (.ireturn, 1) := by decide +kernel
theorem dX5_judge_25 : decode cX5_judge 25 = .ok (.aload_n 2, 1) := by decide +kernel
theorem dX5_judge_26 : decode cX5_judge 26 = .ok (.invokestatic 40, 3) := by decide +kernel
theorem dX5_judge_29 : decode cX5_judge 29 = .ok (.istore_n 3, 1) := by decide +kernel
theorem dX5_judge_30 : decode cX5_judge 30 = .ok (.iload_n 3, 1) := by decide +kernel
theorem dX5_judge_31 : decode cX5_judge 31 = .ok (.ifCond .eq 5, 3) := by decide +kernel
theorem dX5_judge_34 : decode cX5_judge 34 = .ok (.iload_n 3, 1) := by decide +kernel
theorem dX5_judge_35 : decode cX5_judge 35 = .ok (.ireturn, 1) := by decide +kernel
theorem dX5_judge_36 : decode cX5_judge 36 = .ok (.aload_n 2, 1) := by decide +kernel
theorem dX5_judge_37 : decode cX5_judge 37 = .ok (.getfield 44, 3) := by decide +kernel
theorem dX5_judge_40 : decode cX5_judge 40 = .ok (.invokevirtual 215, 3) := by decide +kernel
theorem dX5_judge_43 : decode cX5_judge 43 = .ok (.istore 4, 2) := by decide +kernel
theorem dX5_judge_45 : decode cX5_judge 45 = .ok (.iconst 0, 1) := by decide +kernel
theorem dX5_judge_46 : decode cX5_judge 46 = .ok (.istore 5, 2) := by decide +kernel
theorem dX5_judge_48 : decode cX5_judge 48 = .ok (.iload 5, 2) := by decide +kernel
theorem dX5_judge_50 : decode cX5_judge 50 = .ok (.aload_n 2, 1) := by decide +kernel
theorem dX5_judge_51 : decode cX5_judge 51 = .ok (.getfield 44, 3) := by decide +kernel
theorem dX5_judge_54 : decode cX5_judge 54 = .ok (.getfield 167, 3) := by decide +kernel
theorem dX5_judge_57 : decode cX5_judge 57 = .ok (.if_icmp .ge 59, 3) := by decide +kernel
theorem dX5_judge_60 : decode cX5_judge 60 = .ok (.iload 5, 2) := by decide +kernel
theorem dX5_judge_62 : decode cX5_judge 62 = .ok (.aload_n 0, 1) := by decide +kernel
theorem dX5_judge_63 : decode cX5_judge 63 = .ok (.getfield 10, 3) := by decide +kernel
theorem dX5_judge_66 : decode cX5_judge 66 = .ok (.getfield 125, 3) := by decide +kernel
theorem dX5_judge_69 : decode cX5_judge 69 = .ok (.if_icmp .ge 47, 3) := by decide +kernel
theorem dX5_judge_72 : decode cX5_judge 72 = .ok (.aload_n 2, 1) := by decide +kernel
theorem dX5_judge_73 : decode cX5_judge 73 = .ok (.getfield 44, 3) := by decide +kernel
theorem dX5_judge_76 : decode cX5_judge 76 = .ok (.iload 5, 2) := by decide +kernel
theorem dX5_judge_78 : decode cX5_judge 78 = .ok (.invokevirtual 99, 3) := by decide +kernel
theorem dX5_judge_81 : decode cX5_judge 81 = .ok (.istore 6, 2) := by decide +kernel
theorem dX5_judge_83 : decode cX5_judge 83 = .ok (.iload 6, 2) := by decide +kernel
theorem dX5_judge_85 : decode cX5_judge 85 = .ok (.iload 4, 2) := by decide +kernel
theorem dX5_judge_87 : decode cX5_judge 87 = .ok (.if_icmp .eq 23, 3) := by decide +kernel
theorem dX5_judge_90 : decode cX5_judge 90 = .ok (.iload 6, 2) := by decide +kernel
theorem dX5_judge_92 : decode cX5_judge 92 = .ok (.aload_n 0, 1) := by decide +kernel
theorem dX5_judge_93 : decode cX5_judge 93 = .ok (.getfield 10, 3) := by decide +kernel
theorem dX5_judge_96 : decode cX5_judge 96 = .ok (.getfield 96, 3) := by decide +kernel
theorem dX5_judge_99 : decode cX5_judge 99 = .ok (.iload 5, 2) := by decide +kernel
theorem dX5_judge_101 : decode cX5_judge 101 = .ok (.invokevirtual 99, 3) := by decide +kernel
theorem dX5_judge_104 : decode cX5_judge 104 = .ok (.if_icmp .eq 6, 3) := by decide +kernel
theorem dX5_judge_107 : decode cX5_judge 107 = .ok (.iload 5, 2) := by decide +kernel
theorem dX5_judge_109 : decode cX5_judge 109 = .ok (.ireturn, 1) := by decide +kernel
theorem dX5_judge_110 : decode cX5_judge 110 = .ok (.iinc 5 1, 3) := by decide +kernel
theorem dX5_judge_113 : decode cX5_judge 113 = .ok (.goto (-65), 3) := by decide +kernel
theorem dX5_judge_116 : decode cX5_judge 116 = .ok (.aload_n 2, 1) := by decide +kernel
theorem dX5_judge_117 : decode cX5_judge 117 = .ok (.getfield 44, 3) := by decide +kernel
theorem dX5_judge_120 : decode cX5_judge 120 = .ok (.getfield 167, 3) := by decide +kernel
theorem dX5_judge_123 : decode cX5_judge 123 = .ok (.aload_n 0, 1) := by decide +kernel
theorem dX5_judge_124 : decode cX5_judge 124 = .ok (.getfield 10, 3) := by decide +kernel
theorem dX5_judge_127 : decode cX5_judge 127 = .ok (.getfield 125, 3) := by decide +kernel
theorem dX5_judge_130 : decode cX5_judge 130 = .ok (.if_icmp .le 13, 3) := by decide +kernel
theorem dX5_judge_133 : decode cX5_judge 133 = .ok (.aload_n 0, 1) := by decide +kernel
theorem dX5_judge_134 : decode cX5_judge 134 = .ok (.getfield 10, 3) := by decide +kernel
theorem dX5_judge_137 : decode cX5_judge 137 = .ok (.getfield 125, 3) := by decide +kernel
theorem dX5_judge_140 : decode cX5_judge 140 = .ok (.goto 5, 3) := by decide +kernel
theorem dX5_judge_143 : decode cX5_judge 143 = .ok (.bipush (-4), 2) := by decide +kernel
theorem dX5_judge_145 : decode cX5_judge 145 = .ok (.ireturn, 1) := by decide +kernel
set_option maxRecDepth 20000 in
theorem ggX5_ends_X5_isOneOfTwo : GoodIn wsX5_ends wsX5_isOneOfTwo := goodIn_r _ [5] (by decide +kernel) (by decide +kernel)
set_option maxRecDepth 20000 in
theorem gX5_ends_X5_isOneOfTwo : GoodIn wsX5_ends (va_wsS RX5 144 yX5_isOneOfTwo wsX5_isOneOfTwo) := goodIn_app (goodIn_of _ (by decide +kernel)) ggX5_ends_X5_isOneOfTwo
set_option maxRecDepth 20000 in
theorem ggX5_ends_X0_middle : GoodIn wsX5_ends wsX0_middle := goodIn_r _ [10, 11, 31, 32, 33, 34, 35, 36, 37, 38, 39, 40] (by decide +kernel) (by decide +kernel)
set_option maxRecDepth 20000 in
theorem gX5_ends_X0_middle : GoodIn wsX5_ends (wsV RX5 218 RX0 yX0_middle wsX0_middle) := goodIn_app (goodIn_of _ (by decide +kernel)) ggX5_ends_X0_middle
set_option maxRecDepth 20000 in
theorem ggX5_ends_X0_shareOf : GoodIn wsX5_ends wsX0_shareOf := goodIn_r _ [15, 16, 17, 18, 4, 19, 20, 21, 22, 9, 23, 11, 31, 32, 33, 34, 35, 36, 37, 38, 39, 40] (by decide +kernel) (by decide +kernel)
set_option maxRecDepth 20000 in
theorem gX5_ends_X0_shareOf : GoodIn wsX5_ends (wsV RX5 221 RX0 yX0_shareOf wsX0_shareOf) := goodIn_app (goodIn_of _ (by decide +kernel)) ggX5_ends_X0_shareOf
theorem dX5_ends_0 : decode cX5_ends 0 = .ok (.iload_n 1, 1) := by decide +kernel
theorem dX5_ends_1 : decode cX5_ends 1 = .ok (.invokestatic 144, 3) := by decide +kernel
theorem dX5_ends_4 : decode cX5_ends 4 = .ok (.ifCond .ne 5, 3) := by decide +kernel
theorem dX5_ends_7 : decode cX5_ends 7 = .ok (.iconst (-1), 1) := by decide +kernel
theorem dX5_ends_8 : decode cX5_ends 8 = .ok (.ireturn, 1) := by decide +kernel
theorem dX5_ends_9 : decode cX5_ends 9 = .ok (.aload_n 0, 1) := by decide +kernel
theorem dX5_ends_10 : decode cX5_ends 10 = .ok (.getfield 10, 3) := by decide +kernel
theorem dX5_ends_13 : decode cX5_ends 13 = .ok (.invokevirtual 218, 3) := by decide +kernel
theorem dX5_ends_16 : decode cX5_ends 16 = .ok (.istore_n 2, 1) := by decide +kernel
theorem dX5_ends_17 : decode cX5_ends 17 = .ok (.iconst 0, 1) := by decide +kernel
theorem dX5_ends_18 : decode cX5_ends 18 = .ok (.istore_n 3, 1) := by decide +kernel
theorem dX5_ends_19 : decode cX5_ends 19 = .ok (.iload_n 3, 1) := by decide +kernel
theorem dX5_ends_20 : decode cX5_ends 20 = .ok (.bipush 100, 2) := by decide +kernel
theorem dX5_ends_22 : decode cX5_ends 22 = .ok (.if_icmp .gt 38, 3) := by decide +kernel
theorem dX5_ends_25 : decode cX5_ends 25 = .ok (.aload_n 0, 1) := by decide +kernel
theorem dX5_ends_26 : decode cX5_ends 26 = .ok (.getfield 10, 3) := by decide +kernel
theorem dX5_ends_29 : decode cX5_ends 29 = .ok (.iload_n 2, 1) := by decide +kernel
theorem dX5_ends_30 : decode cX5_ends 30 = .ok (.invokevirtual 221, 3) := by decide +kernel
theorem dX5_ends_33 : decode cX5_ends 33 = .ok (.istore 4, 2) := by decide +kernel
theorem dX5_ends_35 : decode cX5_ends 35 = .ok (.iload 4, 2) := by decide +kernel
theorem dX5_ends_37 : decode cX5_ends 37 = .ok (.iload_n 2, 1) := by decide +kernel
theorem dX5_ends_38 : decode cX5_ends 38 = .ok (.if_icmp .ne 13, 3) := by decide +kernel
theorem dX5_ends_41 : decode cX5_ends 41 = .ok (.iload_n 1, 1) := by decide +kernel
theorem dX5_ends_42 : decode cX5_ends 42 = .ok (.ifCond .ne 7, 3) := by decide +kernel
theorem dX5_ends_45 : decode cX5_ends 45 = .ok (.iload_n 2, 1) := by decide +kernel
theorem dX5_ends_46 : decode cX5_ends 46 = .ok (.goto 4, 3) := by decide +kernel
theorem dX5_ends_49 : decode cX5_ends 49 = .ok (.iload_n 3, 1) := by decide +kernel
theorem dX5_ends_50 : decode cX5_ends 50 = .ok (.ireturn, 1) := by decide +kernel
theorem dX5_ends_51 : decode cX5_ends 51 = .ok (.iload 4, 2) := by decide +kernel
theorem dX5_ends_53 : decode cX5_ends 53 = .ok (.istore_n 2, 1) := by decide +kernel
theorem dX5_ends_54 : decode cX5_ends 54 = .ok (.iinc 3 1, 3) := by decide +kernel
theorem dX5_ends_57 : decode cX5_ends 57 = .ok (.goto (-38), 3) := by decide +kernel
theorem dX5_ends_60 : decode cX5_ends 60 = .ok (.bipush (-4), 2) := by decide +kernel
theorem dX5_ends_62 : decode cX5_ends 62 = .ok (.ireturn, 1) := by decide +kernel
set_option maxRecDepth 20000 in
theorem ggX5_parts_X0_personAt : GoodIn wsX5_parts wsX0_personAt := goodIn_r _ [12, 13, 14, 121, 122, 123, 124, 125, 126, 127, 128, 129, 130] (by decide +kernel) (by decide +kernel)
set_option maxRecDepth 20000 in
theorem gX5_parts_X0_personAt : GoodIn wsX5_parts (wsV RX5 78 RX0 yX0_personAt wsX0_personAt) := goodIn_app (goodIn_of _ (by decide +kernel)) ggX5_parts_X0_personAt
set_option maxRecDepth 20000 in
theorem ggX5_parts_X5_isOneOfTwo : GoodIn wsX5_parts wsX5_isOneOfTwo := goodIn_r _ [18] (by decide +kernel) (by decide +kernel)
set_option maxRecDepth 20000 in
theorem gX5_parts_X5_isOneOfTwo : GoodIn wsX5_parts (va_wsS RX5 144 yX5_isOneOfTwo wsX5_isOneOfTwo) := goodIn_app (goodIn_of _ (by decide +kernel)) ggX5_parts_X5_isOneOfTwo
set_option maxRecDepth 20000 in
theorem ggX5_parts_X1_holdsByDraw : GoodIn wsX5_parts wsX1_holdsByDraw := goodIn_r _ [23, 24, 131, 132, 133, 134] (by decide +kernel) (by decide +kernel)
set_option maxRecDepth 20000 in
theorem gX5_parts_X1_holdsByDraw : GoodIn wsX5_parts (wsV RX5 118 RX1 yX1_holdsByDraw wsX1_holdsByDraw) := goodIn_app (goodIn_of _ (by decide +kernel)) ggX5_parts_X1_holdsByDraw
set_option maxRecDepth 20000 in
theorem ggX5_parts_X0_takeFrom : GoodIn wsX5_parts wsX0_takeFrom := goodIn_r _ [28, 29, 30, 31, 32, 33, 34, 13, 14, 35, 36, 37, 38, 39, 22, 40, 41, 24, 42, 43, 44, 45, 46, 47, 48, 49, 50, 51, 52, 53, 54, 55, 56, 57, 58, 59, 60, 61, 6, 62, 63, 64, 65, 66, 67, 68, 69, 70, 121, 122, 123, 124, 125, 126, 127, 128, 129, 130, 131, 132, 133, 134, 135, 136, 137] (by decide +kernel) (by decide +kernel)
set_option maxRecDepth 20000 in
theorem gX5_parts_X0_takeFrom : GoodIn wsX5_parts (wsV RX5 66 RX0 yX0_takeFrom wsX0_takeFrom) := goodIn_app (goodIn_of _ (by decide +kernel)) ggX5_parts_X0_takeFrom
set_option maxRecDepth 20000 in
theorem ggX5_parts_X0_heldBy : GoodIn wsX5_parts wsX0_heldBy := goodIn_r _ [74, 75, 31, 76, 29, 30, 77, 78, 79, 11, 80, 33, 81, 82, 83, 84, 85, 86, 87, 88, 89, 90, 91, 92, 93, 94, 95, 96, 97, 98, 99, 100, 17, 101, 102, 103, 104, 105, 106, 107, 108, 109, 110, 111, 112, 113, 34, 36, 13, 131, 132, 133, 134, 121, 122, 123, 124, 125, 126, 127, 128, 129, 130] (by decide +kernel) (by decide +kernel)
set_option maxRecDepth 20000 in
theorem gX5_parts_X0_heldBy : GoodIn wsX5_parts (wsV RX5 121 RX0 yX0_heldBy wsX0_heldBy) := goodIn_app (goodIn_of _ (by decide +kernel)) ggX5_parts_X0_heldBy
theorem dX5_parts_0 : decode cX5_parts 0 = .ok (.aload_n 0, 1) := by decide +kernel
theorem dX5_parts_1 : decode cX5_parts 1 = .ok (.getfield 10, 3) := by decide +kernel
theorem dX5_parts_4 : decode cX5_parts 4 = .ok (.iload_n 1, 1) := by decide +kernel
theorem dX5_parts_5 : decode cX5_parts 5 = .ok (.invokevirtual 78, 3) := by decide +kernel
theorem dX5_parts_8 : decode cX5_parts 8 = .ok (.astore 4, 2) := by decide +kernel
theorem dX5_parts_10 : decode cX5_parts 10 = .ok (.aload_n 0, 1) := by decide +kernel
theorem dX5_parts_11 : decode cX5_parts 11 = .ok (.getfield 10, 3) := by decide +kernel
theorem dX5_parts_14 : decode cX5_parts 14 = .ok (.iload_n 2, 1) := by decide +kernel
theorem dX5_parts_15 : decode cX5_parts 15 = .ok (.invokevirtual 78, 3) := by decide +kernel
theorem dX5_parts_18 : decode cX5_parts 18 = .ok (.astore 5, 2) := by decide +kernel
theorem dX5_parts_20 : decode cX5_parts 20 = .ok (.aload 4, 2) := by decide +kernel
theorem dX5_parts_22 : decode cX5_parts 22 = .ok (.ifnull 20, 3) := by decide +kernel
theorem dX5_parts_25 : decode cX5_parts 25 = .ok (.aload 5, 2) := by decide +kernel
theorem dX5_parts_27 : decode cX5_parts 27 = .ok (.ifnull 15, 3) := by decide +kernel
theorem dX5_parts_30 : decode cX5_parts 30 = .ok (.iload_n 1, 1) := by decide +kernel
theorem dX5_parts_31 : decode cX5_parts 31 = .ok (.iload_n 2, 1) := by decide +kernel
theorem dX5_parts_32 : decode cX5_parts 32 = .ok (.if_icmp .eq 10, 3) := by decide +kernel
theorem dX5_parts_35 : decode cX5_parts 35 = .ok (.iload_n 3, 1) := by decide +kernel
theorem dX5_parts_36 : decode cX5_parts 36 = .ok (.invokestatic 144, 3) := by decide +kernel
theorem dX5_parts_39 : decode cX5_parts 39 = .ok (.ifCond .ne 5, 3) := by decide +kernel
theorem dX5_parts_42 : decode cX5_parts 42 = .ok (.iconst (-1), 1) := by decide +kernel
theorem dX5_parts_43 : decode cX5_parts 43 = .ok (.ireturn, 1) := by decide +kernel
theorem dX5_parts_44 : decode cX5_parts 44 = .ok (.aload 4, 2) := by decide +kernel
theorem dX5_parts_46 : decode cX5_parts 46 = .ok (.invokevirtual 118, 3) := by decide +kernel
theorem dX5_parts_49 : decode cX5_parts 49 = .ok (.ifCond .ne 11, 3) := by decide +kernel
theorem dX5_parts_52 : decode cX5_parts 52 = .ok (.aload 5, 2) := by decide +kernel
theorem dX5_parts_54 : decode cX5_parts 54 = .ok (.invokevirtual 118, 3) := by decide +kernel
theorem dX5_parts_57 : decode cX5_parts 57 = .ok (.ifCond .eq 6, 3) := by decide +kernel
theorem dX5_parts_60 : decode cX5_parts 60 = .ok (.bipush (-3), 2) := by decide +kernel
theorem dX5_parts_62 : decode cX5_parts 62 = .ok (.ireturn, 1) := by decide +kernel
theorem dX5_parts_63 : decode cX5_parts 63 = .ok (.aload_n 0, 1) := by decide +kernel
theorem dX5_parts_64 : decode cX5_parts 64 = .ok (.getfield 19, 3) := by decide +kernel
theorem dX5_parts_67 : decode cX5_parts 67 = .ok (.aload_n 0, 1) := by decide +kernel
theorem dX5_parts_68 : decode cX5_parts 68 = .ok (.getfield 10, 3) := by decide +kernel
theorem dX5_parts_71 : decode cX5_parts 71 = .ok (.invokevirtual 66, 3) := by decide +kernel
theorem dX5_parts_74 : decode cX5_parts 74 = .ok (.iconst (-1), 1) := by decide +kernel
theorem dX5_parts_75 : decode cX5_parts 75 = .ok (.istore 6, 2) := by decide +kernel
theorem dX5_parts_77 : decode cX5_parts 77 = .ok (.iconst 0, 1) := by decide +kernel
theorem dX5_parts_78 : decode cX5_parts 78 = .ok (.istore 7, 2) := by decide +kernel
theorem dX5_parts_80 : decode cX5_parts 80 = .ok (.iconst 0, 1) := by decide +kernel
theorem dX5_parts_81 : decode cX5_parts 81 = .ok (.istore 8, 2) := by decide +kernel
theorem dX5_parts_83 : decode cX5_parts 83 = .ok (.iload 8, 2) := by decide +kernel
theorem dX5_parts_85 : decode cX5_parts 85 = .ok (.bipush 20, 2) := by decide +kernel
theorem dX5_parts_87 : decode cX5_parts 87 = .ok (.if_icmp .gt 57, 3) := by decide +kernel
theorem dX5_parts_90 : decode cX5_parts 90 = .ok (.aload_n 0, 1) := by decide +kernel
theorem dX5_parts_91 : decode cX5_parts 91 = .ok (.getfield 19, 3) := by decide +kernel
theorem dX5_parts_94 : decode cX5_parts 94 = .ok (.iload 8, 2) := by decide +kernel
theorem dX5_parts_96 : decode cX5_parts 96 = .ok (.putfield 190, 3) := by decide +kernel
theorem dX5_parts_99 : decode cX5_parts 99 = .ok (.aload_n 0, 1) := by decide +kernel
theorem dX5_parts_100 : decode cX5_parts 100 = .ok (.getfield 19, 3) := by decide +kernel
theorem dX5_parts_103 : decode cX5_parts 103 = .ok (.aload 4, 2) := by decide +kernel
theorem dX5_parts_105 : decode cX5_parts 105 = .ok (.invokevirtual 121, 3) := by decide +kernel
theorem dX5_parts_108 : decode cX5_parts 108 = .ok (.aload_n 0, 1) := by decide +kernel
theorem dX5_parts_109 : decode cX5_parts 109 = .ok (.getfield 19, 3) := by decide +kernel
theorem dX5_parts_112 : decode cX5_parts 112 = .ok (.aload 5, 2) := by decide +kernel
theorem dX5_parts_114 : decode cX5_parts 114 = .ok (.invokevirtual 121, 3) := by decide +kernel
theorem dX5_parts_117 : decode cX5_parts 117 = .ok (.isub, 1) := by decide +kernel
theorem dX5_parts_118 : decode cX5_parts 118 = .ok (.invokestatic 200, 3) := by decide +kernel
theorem dX5_parts_121 : decode cX5_parts 121 = .ok (.istore 9, 2) := by decide +kernel
theorem dX5_parts_123 : decode cX5_parts 123 = .ok (.iload 9, 2) := by decide +kernel
theorem dX5_parts_125 : decode cX5_parts 125 = .ok (.iload 6, 2) := by decide +kernel
theorem dX5_parts_127 : decode cX5_parts 127 = .ok (.if_icmp .le 11, 3) := by decide +kernel
theorem dX5_parts_130 : decode cX5_parts 130 = .ok (.iload 9, 2) := by decide +kernel
theorem dX5_parts_132 : decode cX5_parts 132 = .ok (.istore 6, 2) := by decide +kernel
theorem dX5_parts_134 : decode cX5_parts 134 = .ok (.iload 8, 2) := by decide +kernel
theorem dX5_parts_136 : decode cX5_parts 136 = .ok (.istore 7, 2) := by decide +kernel
theorem dX5_parts_138 : decode cX5_parts 138 = .ok (.iinc 8 1, 3) := by decide +kernel
theorem dX5_parts_141 : decode cX5_parts 141 = .ok (.goto (-58), 3) := by decide +kernel
theorem dX5_parts_144 : decode cX5_parts 144 = .ok (.iload_n 3, 1) := by decide +kernel
theorem dX5_parts_145 : decode cX5_parts 145 = .ok (.ifCond .ne 8, 3) := by decide +kernel
theorem dX5_parts_148 : decode cX5_parts 148 = .ok (.iload 7, 2) := by decide +kernel
theorem dX5_parts_150 : decode cX5_parts 150 = .ok (.goto 5, 3) := by decide +kernel
theorem dX5_parts_153 : decode cX5_parts 153 = .ok (.iload 6, 2) := by decide +kernel
theorem dX5_parts_155 : decode cX5_parts 155 = .ok (.ireturn, 1) := by decide +kernel
set_option maxRecDepth 20000 in
theorem ggX5_image_X0_takeFrom : GoodIn wsX5_image wsX0_takeFrom := goodIn_r _ [9, 10, 11, 12, 13, 14, 15, 16, 17, 18, 19, 20, 21, 22, 23, 24, 25, 26, 27, 28, 29, 30, 31, 32, 33, 34, 35, 36, 37, 38, 39, 40, 41, 42, 43, 44, 45, 46, 47, 48, 49, 50, 51, 52, 53, 54, 55, 56, 64, 65, 66, 67, 68, 69, 70, 71, 72, 73, 74, 75, 76, 77, 78, 79, 80] (by decide +kernel) (by decide +kernel)
set_option maxRecDepth 20000 in
theorem gX5_image_X0_takeFrom : GoodIn wsX5_image (wsV RX5 66 RX0 yX0_takeFrom wsX0_takeFrom) := goodIn_app (goodIn_of _ (by decide +kernel)) ggX5_image_X0_takeFrom
theorem dX5_image_0 : decode cX5_image 0 = .ok (.aload_n 0, 1) := by decide +kernel
theorem dX5_image_1 : decode cX5_image 1 = .ok (.getfield 16, 3) := by decide +kernel
theorem dX5_image_4 : decode cX5_image 4 = .ok (.aload_n 0, 1) := by decide +kernel
theorem dX5_image_5 : decode cX5_image 5 = .ok (.getfield 10, 3) := by decide +kernel
theorem dX5_image_8 : decode cX5_image 8 = .ok (.invokevirtual 66, 3) := by decide +kernel
theorem dX5_image_11 : decode cX5_image 11 = .ok (.aload_n 0, 1) := by decide +kernel
theorem dX5_image_12 : decode cX5_image 12 = .ok (.iconst 1, 1) := by decide +kernel
theorem dX5_image_13 : decode cX5_image 13 = .ok (.putfield 224, 3) := by decide +kernel
theorem dX5_image_16 : decode cX5_image 16 = .ok (.aload_n 0, 1) := by decide +kernel
theorem dX5_image_17 : decode cX5_image 17 = .ok (.getfield 10, 3) := by decide +kernel
theorem dX5_image_20 : decode cX5_image 20 = .ok (.getfield 125, 3) := by decide +kernel
theorem dX5_image_23 : decode cX5_image 23 = .ok (.ireturn, 1) := by decide +kernel
set_option maxRecDepth 20000 in
theorem ggX5_restore_X0_takeFrom : GoodIn wsX5_restore wsX0_takeFrom := goodIn_r _ [9, 10, 11, 12, 13, 14, 15, 16, 17, 18, 19, 20, 21, 22, 23, 24, 25, 26, 27, 28, 29, 30, 31, 32, 33, 34, 35, 36, 37, 38, 39, 40, 41, 42, 43, 44, 45, 46, 47, 48, 49, 50, 51, 52, 53, 54, 55, 56, 64, 65, 66, 67, 68, 69, 70, 71, 72, 73, 74, 75, 76, 77, 78, 79, 80] (by decide +kernel) (by decide +kernel)
set_option maxRecDepth 20000 in
theorem gX5_restore_X0_takeFrom : GoodIn wsX5_restore (wsV RX5 66 RX0 yX0_takeFrom wsX0_takeFrom) := goodIn_app (goodIn_of _ (by decide +kernel)) ggX5_restore_X0_takeFrom
theorem dX5_restore_0 : decode cX5_restore 0 = .ok (.aload_n 0, 1) := by decide +kernel
theorem dX5_restore_1 : decode cX5_restore 1 = .ok (.getfield 224, 3) := by decide +kernel
theorem dX5_restore_4 : decode cX5_restore 4 = .ok (.ifCond .ne 6, 3) := by decide +kernel
theorem dX5_restore_7 : decode cX5_restore 7 = .ok (.bipush (-3), 2) := by decide +kernel
theorem dX5_restore_9 : decode cX5_restore 9 = .ok (.ireturn, 1) := by decide +kernel
theorem dX5_restore_10 : decode cX5_restore 10 = .ok (.aload_n 0, 1) := by decide +kernel
theorem dX5_restore_11 : decode cX5_restore 11 = .ok (.getfield 10, 3) := by decide +kernel
theorem dX5_restore_14 : decode cX5_restore 14 = .ok (.aload_n 0, 1) := by decide +kernel
theorem dX5_restore_15 : decode cX5_restore 15 = .ok (.getfield 16, 3) := by decide +kernel
theorem dX5_restore_18 : decode cX5_restore 18 = .ok (.invokevirtual 66, 3) := by decide +kernel
theorem dX5_restore_21 : decode cX5_restore 21 = .ok (.aload_n 0, 1) := by decide +kernel
theorem dX5_restore_22 : decode cX5_restore 22 = .ok (.getfield 10, 3) := by decide +kernel
theorem dX5_restore_25 : decode cX5_restore 25 = .ok (.getfield 125, 3) := by decide +kernel
theorem dX5_restore_28 : decode cX5_restore 28 = .ok (.ireturn, 1) := by decide +kernel
set_option maxRecDepth 20000 in
theorem ggX5_count_X0_allSteps : GoodIn wsX5_count wsX0_allSteps := goodIn_r _ [11, 12, 13, 14, 22, 23, 24, 25, 26, 27, 28, 29, 30, 31, 32, 33, 34, 35] (by decide +kernel) (by decide +kernel)
set_option maxRecDepth 20000 in
theorem gX5_count_X0_allSteps : GoodIn wsX5_count (wsV RX5 228 RX0 yX0_allSteps wsX0_allSteps) := goodIn_app (goodIn_of _ (by decide +kernel)) ggX5_count_X0_allSteps
theorem dX5_count_0 : decode cX5_count 0 = .ok (.iload_n 1, 1) := by decide +kernel
theorem dX5_count_1 : decode cX5_count 1 = .ok (.tableswitch 87 0 5 #[39, 47, 55, 63, 71, 79], 39) := by decide +kernel
theorem dX5_count_40 : decode cX5_count 40 = .ok (.aload_n 0, 1) := by decide +kernel
theorem dX5_count_41 : decode cX5_count 41 = .ok (.getfield 10, 3) := by decide +kernel
theorem dX5_count_44 : decode cX5_count 44 = .ok (.getfield 125, 3) := by decide +kernel
theorem dX5_count_47 : decode cX5_count 47 = .ok (.ireturn, 1) := by decide +kernel
theorem dX5_count_48 : decode cX5_count 48 = .ok (.aload_n 0, 1) := by decide +kernel
theorem dX5_count_49 : decode cX5_count 49 = .ok (.getfield 10, 3) := by decide +kernel
theorem dX5_count_52 : decode cX5_count 52 = .ok (.getfield 93, 3) := by decide +kernel
theorem dX5_count_55 : decode cX5_count 55 = .ok (.ireturn, 1) := by decide +kernel
theorem dX5_count_56 : decode cX5_count 56 = .ok (.aload_n 0, 1) := by decide +kernel
theorem dX5_count_57 : decode cX5_count 57 = .ok (.getfield 10, 3) := by decide +kernel
theorem dX5_count_60 : decode cX5_count 60 = .ok (.getfield 190, 3) := by decide +kernel
theorem dX5_count_63 : decode cX5_count 63 = .ok (.ireturn, 1) := by decide +kernel
theorem dX5_count_64 : decode cX5_count 64 = .ok (.aload_n 0, 1) := by decide +kernel
theorem dX5_count_65 : decode cX5_count 65 = .ok (.getfield 10, 3) := by decide +kernel
theorem dX5_count_68 : decode cX5_count 68 = .ok (.getfield 193, 3) := by decide +kernel
theorem dX5_count_71 : decode cX5_count 71 = .ok (.ireturn, 1) := by decide +kernel
theorem dX5_count_72 : decode cX5_count 72 = .ok (.aload_n 0, 1) := by decide +kernel
theorem dX5_count_73 : decode cX5_count 73 = .ok (.getfield 10, 3) := by decide +kernel
theorem dX5_count_76 : decode cX5_count 76 = .ok (.getfield 205, 3) := by decide +kernel
theorem dX5_count_79 : decode cX5_count 79 = .ok (.ireturn, 1) := by decide +kernel
theorem dX5_count_80 : decode cX5_count 80 = .ok (.aload_n 0, 1) := by decide +kernel
theorem dX5_count_81 : decode cX5_count 81 = .ok (.getfield 10, 3) := by decide +kernel
theorem dX5_count_84 : decode cX5_count 84 = .ok (.invokevirtual 228, 3) := by decide +kernel
theorem dX5_count_87 : decode cX5_count 87 = .ok (.ireturn, 1) := by decide +kernel
theorem dX5_count_88 : decode cX5_count 88 = .ok (.iconst (-1), 1) := by decide +kernel
theorem dX5_count_89 : decode cX5_count 89 = .ok (.ireturn, 1) := by decide +kernel
set_option maxRecDepth 20000 in
theorem ggX5_keep_X5_shelfAt : GoodIn wsX5_keep wsX5_shelfAt := goodIn_r _ [8, 9, 36, 37, 38, 39, 40, 41, 42] (by decide +kernel) (by decide +kernel)
set_option maxRecDepth 20000 in
theorem gX5_keep_X5_shelfAt : GoodIn wsX5_keep (wsV RX5 36 RX5 yX5_shelfAt wsX5_shelfAt) := goodIn_app (goodIn_of _ (by decide +kernel)) ggX5_keep_X5_shelfAt
set_option maxRecDepth 20000 in
theorem ggX5_keep_X5_isOneOfTwo : GoodIn wsX5_keep wsX5_isOneOfTwo := goodIn_r _ [12] (by decide +kernel) (by decide +kernel)
set_option maxRecDepth 20000 in
theorem gX5_keep_X5_isOneOfTwo : GoodIn wsX5_keep (va_wsS RX5 144 yX5_isOneOfTwo wsX5_isOneOfTwo) := goodIn_app (goodIn_of _ (by decide +kernel)) ggX5_keep_X5_isOneOfTwo
set_option maxRecDepth 20000 in
theorem ggX5_keep_X0_personAt : GoodIn wsX5_keep wsX0_personAt := goodIn_r _ [17, 18, 19, 43, 44, 45, 46, 47, 48, 49, 50, 51, 52] (by decide +kernel) (by decide +kernel)
set_option maxRecDepth 20000 in
theorem gX5_keep_X0_personAt : GoodIn wsX5_keep (wsV RX5 78 RX0 yX0_personAt wsX0_personAt) := goodIn_app (goodIn_of _ (by decide +kernel)) ggX5_keep_X0_personAt
set_option maxRecDepth 20000 in
theorem ggX5_keep_X1_takeFrom : GoodIn wsX5_keep wsX1_takeFrom := goodIn_r _ [24, 25, 26, 27, 28, 29, 30, 31, 23, 32, 53, 54, 55, 56] (by decide +kernel) (by decide +kernel)
set_option maxRecDepth 20000 in
theorem gX5_keep_X1_takeFrom : GoodIn wsX5_keep (wsV RX5 238 RX1 yX1_takeFrom wsX1_takeFrom) := goodIn_app (goodIn_of _ (by decide +kernel)) ggX5_keep_X1_takeFrom
theorem dX5_keep_0 : decode cX5_keep 0 = .ok (.aload_n 0, 1) := by decide +kernel
theorem dX5_keep_1 : decode cX5_keep 1 = .ok (.iload_n 1, 1) := by decide +kernel
theorem dX5_keep_2 : decode cX5_keep 2 = .ok (.invokevirtual 36, 3) := by decide +kernel
theorem dX5_keep_5 : decode cX5_keep 5 = .ok (.astore 4, 2) := by decide +kernel
theorem dX5_keep_7 : decode cX5_keep 7 = .ok (.aload 4, 2) := by decide +kernel
theorem dX5_keep_9 : decode cX5_keep 9 = .ok (.ifnull 10, 3) := by decide +kernel
theorem dX5_keep_12 : decode cX5_keep 12 = .ok (.iload_n 2, 1) := by decide +kernel
theorem dX5_keep_13 : decode cX5_keep 13 = .ok (.invokestatic 144, 3) := by decide +kernel
theorem dX5_keep_16 : decode cX5_keep 16 = .ok (.ifCond .ne 5, 3) := by decide +kernel
theorem dX5_keep_19 : decode cX5_keep 19 = .ok (.iconst (-1), 1) := by decide +kernel
theorem dX5_keep_20 : decode cX5_keep 20 = .ok (.ireturn, 1) := by decide +kernel
theorem dX5_keep_21 : decode cX5_keep 21 = .ok (.iload_n 2, 1) := by decide +kernel
theorem dX5_keep_22 : decode cX5_keep 22 = .ok (.ifCond .ne 11, 3) := by decide +kernel
theorem dX5_keep_25 : decode cX5_keep 25 = .ok (.aload 4, 2) := by decide +kernel
theorem dX5_keep_27 : decode cX5_keep 27 = .ok (.iconst 0, 1) := by decide +kernel
theorem dX5_keep_28 : decode cX5_keep 28 = .ok (.putfield 231, 3) := by decide +kernel
theorem dX5_keep_31 : decode cX5_keep 31 = .ok (.iconst 0, 1) := by decide +kernel
theorem dX5_keep_32 : decode cX5_keep 32 = .ok (.ireturn, 1) := by decide +kernel
theorem dX5_keep_33 : decode cX5_keep 33 = .ok (.aload_n 0, 1) := by decide +kernel
theorem dX5_keep_34 : decode cX5_keep 34 = .ok (.getfield 10, 3) := by decide +kernel
theorem dX5_keep_37 : decode cX5_keep 37 = .ok (.iload_n 3, 1) := by decide +kernel
theorem dX5_keep_38 : decode cX5_keep 38 = .ok (.invokevirtual 78, 3) := by decide +kernel
theorem dX5_keep_41 : decode cX5_keep 41 = .ok (.astore 5, 2) := by decide +kernel
theorem dX5_keep_43 : decode cX5_keep 43 = .ok (.aload 5, 2) := by decide +kernel
theorem dX5_keep_45 : decode cX5_keep 45 = .ok (.ifnonnull 5, 3) := by decide +kernel
theorem dX5_keep_48 : decode cX5_keep 48 = .ok (.iconst (-1), 1) := by decide +kernel
theorem dX5_keep_49 : decode cX5_keep 49 = .ok (.ireturn, 1) := by decide +kernel
theorem dX5_keep_50 : decode cX5_keep 50 = .ok (.aload 4, 2) := by decide +kernel
theorem dX5_keep_52 : decode cX5_keep 52 = .ok (.iconst 1, 1) := by decide +kernel
theorem dX5_keep_53 : decode cX5_keep 53 = .ok (.putfield 231, 3) := by decide +kernel
theorem dX5_keep_56 : decode cX5_keep 56 = .ok (.aload 4, 2) := by decide +kernel
theorem dX5_keep_58 : decode cX5_keep 58 = .ok (.getfield 234, 3) := by decide +kernel
theorem dX5_keep_61 : decode cX5_keep 61 = .ok (.aload 5, 2) := by decide +kernel
theorem dX5_keep_63 : decode cX5_keep 63 = .ok (.invokevirtual 238, 3) := by decide +kernel
theorem dX5_keep_66 : decode cX5_keep 66 = .ok (.iconst 0, 1) := by decide +kernel
theorem dX5_keep_67 : decode cX5_keep 67 = .ok (.ireturn, 1) := by decide +kernel
set_option maxRecDepth 20000 in
theorem ggX5_row_X5_shelfAt : GoodIn wsX5_row wsX5_shelfAt := goodIn_r _ [7, 8, 28, 29, 30, 31, 32, 33, 34] (by decide +kernel) (by decide +kernel)
set_option maxRecDepth 20000 in
theorem gX5_row_X5_shelfAt : GoodIn wsX5_row (wsV RX5 36 RX5 yX5_shelfAt wsX5_shelfAt) := goodIn_app (goodIn_of _ (by decide +kernel)) ggX5_row_X5_shelfAt
set_option maxRecDepth 20000 in
theorem ggX5_row_X3_begin : GoodIn wsX5_row wsX3_begin := goodIn_r _ [13, 14, 15, 16, 17, 18, 19, 20, 21, 22, 23, 24, 35, 36, 37] (by decide +kernel) (by decide +kernel)
set_option maxRecDepth 20000 in
theorem gX5_row_X3_begin : GoodIn wsX5_row (wsV RX5 241 RX3 yX3_begin wsX3_begin) := goodIn_app (goodIn_of _ (by decide +kernel)) ggX5_row_X3_begin
theorem dX5_row_0 : decode cX5_row 0 = .ok (.aload_n 0, 1) := by decide +kernel
theorem dX5_row_1 : decode cX5_row 1 = .ok (.iload_n 1, 1) := by decide +kernel
theorem dX5_row_2 : decode cX5_row 2 = .ok (.invokevirtual 36, 3) := by decide +kernel
theorem dX5_row_5 : decode cX5_row 5 = .ok (.astore 4, 2) := by decide +kernel
theorem dX5_row_7 : decode cX5_row 7 = .ok (.aload 4, 2) := by decide +kernel
theorem dX5_row_9 : decode cX5_row 9 = .ok (.ifnull 18, 3) := by decide +kernel
theorem dX5_row_12 : decode cX5_row 12 = .ok (.iload_n 2, 1) := by decide +kernel
theorem dX5_row_13 : decode cX5_row 13 = .ok (.ifCond .lt 14, 3) := by decide +kernel
theorem dX5_row_16 : decode cX5_row 16 = .ok (.iload_n 2, 1) := by decide +kernel
theorem dX5_row_17 : decode cX5_row 17 = .ok (.iconst 2, 1) := by decide +kernel
theorem dX5_row_18 : decode cX5_row 18 = .ok (.if_icmp .gt 9, 3) := by decide +kernel
theorem dX5_row_21 : decode cX5_row 21 = .ok (.iload_n 3, 1) := by decide +kernel
theorem dX5_row_22 : decode cX5_row 22 = .ok (.bipush 100, 2) := by decide +kernel
theorem dX5_row_24 : decode cX5_row 24 = .ok (.if_icmp .le 5, 3) := by decide +kernel
theorem dX5_row_27 : decode cX5_row 27 = .ok (.iconst (-1), 1) := by decide +kernel
theorem dX5_row_28 : decode cX5_row 28 = .ok (.ireturn, 1) := by decide +kernel
theorem dX5_row_29 : decode cX5_row 29 = .ok (.iload_n 3, 1) := by decide +kernel
theorem dX5_row_30 : decode cX5_row 30 = .ok (.ifCond .ge 6, 3) := by decide +kernel
theorem dX5_row_33 : decode cX5_row 33 = .ok (.bipush (-14), 2) := by decide +kernel
theorem dX5_row_35 : decode cX5_row 35 = .ok (.ireturn, 1) := by decide +kernel
theorem dX5_row_36 : decode cX5_row 36 = .ok (.aload 4, 2) := by decide +kernel
theorem dX5_row_38 : decode cX5_row 38 = .ok (.iconst 2, 1) := by decide +kernel
theorem dX5_row_39 : decode cX5_row 39 = .ok (.putfield 231, 3) := by decide +kernel
theorem dX5_row_42 : decode cX5_row 42 = .ok (.aload 4, 2) := by decide +kernel
theorem dX5_row_44 : decode cX5_row 44 = .ok (.getfield 44, 3) := by decide +kernel
theorem dX5_row_47 : decode cX5_row 47 = .ok (.iload_n 2, 1) := by decide +kernel
theorem dX5_row_48 : decode cX5_row 48 = .ok (.iload_n 3, 1) := by decide +kernel
theorem dX5_row_49 : decode cX5_row 49 = .ok (.invokevirtual 241, 3) := by decide +kernel
theorem dX5_row_52 : decode cX5_row 52 = .ok (.iconst 0, 1) := by decide +kernel
theorem dX5_row_53 : decode cX5_row 53 = .ok (.ireturn, 1) := by decide +kernel
set_option maxRecDepth 20000 in
theorem ggX5_put_X5_shelfAt : GoodIn wsX5_put wsX5_shelfAt := goodIn_r _ [6, 7, 35, 36, 37, 38, 39, 40, 41] (by decide +kernel) (by decide +kernel)
set_option maxRecDepth 20000 in
theorem gX5_put_X5_shelfAt : GoodIn wsX5_put (wsV RX5 36 RX5 yX5_shelfAt wsX5_shelfAt) := goodIn_app (goodIn_of _ (by decide +kernel)) ggX5_put_X5_shelfAt
set_option maxRecDepth 20000 in
theorem ggX5_put_X5_rowRefusal : GoodIn wsX5_put wsX5_rowRefusal := goodIn_r _ [10, 11, 12, 5, 13, 14, 32, 33, 34] (by decide +kernel) (by decide +kernel)
set_option maxRecDepth 20000 in
theorem gX5_put_X5_rowRefusal : GoodIn wsX5_put (va_wsS RX5 40 yX5_rowRefusal wsX5_rowRefusal) := goodIn_app (goodIn_of _ (by decide +kernel)) ggX5_put_X5_rowRefusal
set_option maxRecDepth 20000 in
theorem ggX5_put_X3_hasPlace : GoodIn wsX5_put wsX3_hasPlace := goodIn_r _ [19, 20, 42, 43, 44] (by decide +kernel) (by decide +kernel)
set_option maxRecDepth 20000 in
theorem gX5_put_X3_hasPlace : GoodIn wsX5_put (wsV RX5 244 RX3 yX3_hasPlace wsX3_hasPlace) := goodIn_app (goodIn_of _ (by decide +kernel)) ggX5_put_X3_hasPlace
set_option maxRecDepth 20000 in
theorem ggX5_put_X3_write : GoodIn wsX5_put wsX3_write := goodIn_r _ [24, 25, 26, 16, 17, 18, 19, 20, 27, 28, 29, 30, 31, 42, 43, 44] (by decide +kernel) (by decide +kernel)
set_option maxRecDepth 20000 in
theorem gX5_put_X3_write : GoodIn wsX5_put (wsV RX5 247 RX3 yX3_write wsX3_write) := goodIn_app (goodIn_of _ (by decide +kernel)) ggX5_put_X3_write
theorem dX5_put_0 : decode cX5_put 0 = .ok (.aload_n 0, 1) := by decide +kernel
theorem dX5_put_1 : decode cX5_put 1 = .ok (.iload_n 1, 1) := by decide +kernel
theorem dX5_put_2 : decode cX5_put 2 = .ok (.invokevirtual 36, 3) := by decide +kernel
theorem dX5_put_5 : decode cX5_put 5 = .ok (.astore 4, 2) := by decide +kernel
theorem dX5_put_7 : decode cX5_put 7 = .ok (.aload 4, 2) := by decide +kernel
theorem dX5_put_9 : decode cX5_put 9 = .ok (.invokestatic 40, 3) := by decide +kernel
theorem dX5_put_12 : decode cX5_put 12 = .ok (.istore 5, 2) := by decide +kernel
theorem dX5_put_14 : decode cX5_put 14 = .ok (.iload 5, 2) := by decide +kernel
theorem dX5_put_16 : decode cX5_put 16 = .ok (.ifCond .eq 6, 3) := by decide +kernel
theorem dX5_put_19 : decode cX5_put 19 = .ok (.iload 5, 2) := by decide +kernel
theorem dX5_put_21 : decode cX5_put 21 = .ok (.ireturn, 1) := by decide +kernel
theorem dX5_put_22 : decode cX5_put 22 = .ok (.aload 4, 2) := by decide +kernel
theorem dX5_put_24 : decode cX5_put 24 = .ok (.getfield 44, 3) := by decide +kernel
theorem dX5_put_27 : decode cX5_put 27 = .ok (.iload_n 2, 1) := by decide +kernel
theorem dX5_put_28 : decode cX5_put 28 = .ok (.invokevirtual 244, 3) := by decide +kernel
theorem dX5_put_31 : decode cX5_put 31 = .ok (.ifCond .ne 6, 3) := by decide +kernel
theorem dX5_put_34 : decode cX5_put 34 = .ok (.bipush (-13), 2) := by decide +kernel
theorem dX5_put_36 : decode cX5_put 36 = .ok (.ireturn, 1) := by decide +kernel
theorem dX5_put_37 : decode cX5_put 37 = .ok (.aload 4, 2) := by decide +kernel
theorem dX5_put_39 : decode cX5_put 39 = .ok (.getfield 44, 3) := by decide +kernel
theorem dX5_put_42 : decode cX5_put 42 = .ok (.iload_n 2, 1) := by decide +kernel
theorem dX5_put_43 : decode cX5_put 43 = .ok (.iload_n 3, 1) := by decide +kernel
theorem dX5_put_44 : decode cX5_put 44 = .ok (.invokevirtual 247, 3) := by decide +kernel
theorem dX5_put_47 : decode cX5_put 47 = .ok (.iconst 0, 1) := by decide +kernel
theorem dX5_put_48 : decode cX5_put 48 = .ok (.ireturn, 1) := by decide +kernel
set_option maxRecDepth 20000 in
theorem ggX5_element_X5_shelfAt : GoodIn wsX5_element wsX5_shelfAt := goodIn_r _ [11, 12, 27, 28, 29, 30, 31, 32, 33] (by decide +kernel) (by decide +kernel)
set_option maxRecDepth 20000 in
theorem gX5_element_X5_shelfAt : GoodIn wsX5_element (wsV RX5 36 RX5 yX5_shelfAt wsX5_shelfAt) := goodIn_app (goodIn_of _ (by decide +kernel)) ggX5_element_X5_shelfAt
set_option maxRecDepth 20000 in
theorem ggX5_element_X3_hasPlace : GoodIn wsX5_element wsX3_hasPlace := goodIn_r _ [17, 18, 34, 35, 36] (by decide +kernel) (by decide +kernel)
set_option maxRecDepth 20000 in
theorem gX5_element_X3_hasPlace : GoodIn wsX5_element (wsV RX5 244 RX3 yX3_hasPlace wsX3_hasPlace) := goodIn_app (goodIn_of _ (by decide +kernel)) ggX5_element_X3_hasPlace
set_option maxRecDepth 20000 in
theorem ggX5_element_X3_at : GoodIn wsX5_element wsX3_at := goodIn_r _ [22, 18, 23, 34, 35, 36] (by decide +kernel) (by decide +kernel)
set_option maxRecDepth 20000 in
theorem gX5_element_X3_at : GoodIn wsX5_element (wsV RX5 99 RX3 yX3_at wsX3_at) := goodIn_app (goodIn_of _ (by decide +kernel)) ggX5_element_X3_at
theorem dX5_element_0 : decode cX5_element 0 = .ok (.aload_n 0, 1) := by decide +kernel
theorem dX5_element_1 : decode cX5_element 1 = .ok (.iload_n 1, 1) := by decide +kernel
theorem dX5_element_2 : decode cX5_element 2 = .ok (.invokevirtual 36, 3) := by decide +kernel
theorem dX5_element_5 : decode cX5_element 5 = .ok (.astore_n 3, 1) := by decide +kernel
theorem dX5_element_6 : decode cX5_element 6 = .ok (.aload_n 3, 1) := by decide +kernel
theorem dX5_element_7 : decode cX5_element 7 = .ok (.ifnonnull 13, 3) := by decide +kernel
theorem dX5_element_10 : decode cX5_element 10 = .ok (.new 250, 3) := by decide +kernel
theorem dX5_element_13 : decode cX5_element 13 = .ok (.dup, 1) := by decide +kernel
theorem dX5_element_14 : decode cX5_element 14 = .ok (.ldc 252, 2) := by decide +kernel
theorem dX5_element_16 : decode cX5_element 16 = .ok (.invokespecial 254, 3) := by decide +kernel
theorem dX5_element_19 : decode cX5_element 19 = .ok (.athrow, 1) := by decide +kernel
theorem dX5_element_20 : decode cX5_element 20 = .ok (.aload_n 3, 1) := by decide +kernel
theorem dX5_element_21 : decode cX5_element 21 = .ok (.getfield 231, 3) := by decide +kernel
theorem dX5_element_24 : decode cX5_element 24 = .ok (.iconst 2, 1) := by decide +kernel
theorem dX5_element_25 : decode cX5_element 25 = .ok (.if_icmp .eq 14, 3) := by decide +kernel
theorem dX5_element_28 : decode cX5_element 28 = .ok (.new 257, 3) := by decide +kernel
theorem dX5_element_31 : decode cX5_element 31 = .ok (.dup, 1) := by decide +kernel
theorem dX5_element_32 : decode cX5_element 32 = .ok (.ldc_w 259, 3) := by decide +kernel
theorem dX5_element_35 : decode cX5_element 35 = .ok (.invokespecial 261, 3) := by decide +kernel
theorem dX5_element_38 : decode cX5_element 38 = .ok (.athrow, 1) := by decide +kernel
theorem dX5_element_39 : decode cX5_element 39 = .ok (.aload_n 3, 1) := by decide +kernel
theorem dX5_element_40 : decode cX5_element 40 = .ok (.getfield 44, 3) := by decide +kernel
theorem dX5_element_43 : decode cX5_element 43 = .ok (.iload_n 2, 1) := by decide +kernel
theorem dX5_element_44 : decode cX5_element 44 = .ok (.invokevirtual 244, 3) := by decide +kernel
theorem dX5_element_47 : decode cX5_element 47 = .ok (.ifCond .ne 14, 3) := by decide +kernel
theorem dX5_element_50 : decode cX5_element 50 = .ok (.new 257, 3) := by decide +kernel
theorem dX5_element_53 : decode cX5_element 53 = .ok (.dup, 1) := by decide +kernel
theorem dX5_element_54 : decode cX5_element 54 = .ok (.ldc_w 262, 3) := by decide +kernel
theorem dX5_element_57 : decode cX5_element 57 = .ok (.invokespecial 261, 3) := by decide +kernel
theorem dX5_element_60 : decode cX5_element 60 = .ok (.athrow, 1) := by decide +kernel
theorem dX5_element_61 : decode cX5_element 61 = .ok (.aload_n 3, 1) := by decide +kernel
theorem dX5_element_62 : decode cX5_element 62 = .ok (.getfield 44, 3) := by decide +kernel
theorem dX5_element_65 : decode cX5_element 65 = .ok (.iload_n 2, 1) := by decide +kernel
theorem dX5_element_66 : decode cX5_element 66 = .ok (.invokevirtual 99, 3) := by decide +kernel
theorem dX5_element_69 : decode cX5_element 69 = .ok (.i2l, 1) := by decide +kernel
theorem dX5_element_70 : decode cX5_element 70 = .ok (.lreturn, 1) := by decide +kernel
set_option maxRecDepth 20000 in
theorem ggX5_copy_X5_shelfAt : GoodIn wsX5_copy wsX5_shelfAt := goodIn_r _ [12, 13, 30, 31, 32, 33, 34, 35, 36] (by decide +kernel) (by decide +kernel)
set_option maxRecDepth 20000 in
theorem gX5_copy_X5_shelfAt : GoodIn wsX5_copy (wsV RX5 36 RX5 yX5_shelfAt wsX5_shelfAt) := goodIn_app (goodIn_of _ (by decide +kernel)) ggX5_copy_X5_shelfAt
set_option maxRecDepth 20000 in
theorem ggX5_copy_X5_twoRowsRefusal : GoodIn wsX5_copy wsX5_twoRowsRefusal := goodIn_r _ [16, 17, 24, 25, 26] (by decide +kernel) (by decide +kernel)
set_option maxRecDepth 20000 in
theorem gX5_copy_X5_twoRowsRefusal : GoodIn wsX5_copy (va_wsS RX5 182 yX5_twoRowsRefusal wsX5_twoRowsRefusal) := goodIn_app (goodIn_of _ (by decide +kernel)) ggX5_copy_X5_twoRowsRefusal
set_option maxRecDepth 20000 in
theorem ggX5_copy_X3_hasPlaces : GoodIn wsX5_copy wsX3_hasPlaces := goodIn_r _ [22, 23, 27, 28, 29] (by decide +kernel) (by decide +kernel)
set_option maxRecDepth 20000 in
theorem gX5_copy_X3_hasPlaces : GoodIn wsX5_copy (wsV RX5 264 RX3 yX3_hasPlaces wsX3_hasPlaces) := goodIn_app (goodIn_of _ (by decide +kernel)) ggX5_copy_X3_hasPlaces
theorem dX5_copy_0 : decode cX5_copy 0 = .ok (.aload_n 0, 1) := by decide +kernel
theorem dX5_copy_1 : decode cX5_copy 1 = .ok (.iload_n 1, 1) := by decide +kernel
theorem dX5_copy_2 : decode cX5_copy 2 = .ok (.invokevirtual 36, 3) := by decide +kernel
theorem dX5_copy_5 : decode cX5_copy 5 = .ok (.astore 6, 2) := by decide +kernel
theorem dX5_copy_7 : decode cX5_copy 7 = .ok (.aload_n 0, 1) := by decide +kernel
theorem dX5_copy_8 : decode cX5_copy 8 = .ok (.iload_n 3, 1) := by decide +kernel
theorem dX5_copy_9 : decode cX5_copy 9 = .ok (.invokevirtual 36, 3) := by decide +kernel
theorem dX5_copy_12 : decode cX5_copy 12 = .ok (.astore 7, 2) := by decide +kernel
theorem dX5_copy_14 : decode cX5_copy 14 = .ok (.aload 6, 2) := by decide +kernel
theorem dX5_copy_16 : decode cX5_copy 16 = .ok (.aload 7, 2) := by decide +kernel
theorem dX5_copy_18 : decode cX5_copy 18 = .ok (.invokestatic 182, 3) := by decide +kernel
theorem dX5_copy_21 : decode cX5_copy 21 = .ok (.istore 8, 2) := by decide +kernel
theorem dX5_copy_23 : decode cX5_copy 23 = .ok (.iload 8, 2) := by decide +kernel
theorem dX5_copy_25 : decode cX5_copy 25 = .ok (.ifCond .eq 6, 3) := by decide +kernel
theorem dX5_copy_28 : decode cX5_copy 28 = .ok (.iload 8, 2) := by decide +kernel
theorem dX5_copy_30 : decode cX5_copy 30 = .ok (.ireturn, 1) := by decide +kernel
theorem dX5_copy_31 : decode cX5_copy 31 = .ok (.aload 6, 2) := by decide +kernel
theorem dX5_copy_33 : decode cX5_copy 33 = .ok (.getfield 44, 3) := by decide +kernel
theorem dX5_copy_36 : decode cX5_copy 36 = .ok (.getfield 48, 3) := by decide +kernel
theorem dX5_copy_39 : decode cX5_copy 39 = .ok (.aload 7, 2) := by decide +kernel
theorem dX5_copy_41 : decode cX5_copy 41 = .ok (.getfield 44, 3) := by decide +kernel
theorem dX5_copy_44 : decode cX5_copy 44 = .ok (.getfield 48, 3) := by decide +kernel
theorem dX5_copy_47 : decode cX5_copy 47 = .ok (.if_icmp .eq 6, 3) := by decide +kernel
theorem dX5_copy_50 : decode cX5_copy 50 = .ok (.bipush (-12), 2) := by decide +kernel
theorem dX5_copy_52 : decode cX5_copy 52 = .ok (.ireturn, 1) := by decide +kernel
theorem dX5_copy_53 : decode cX5_copy 53 = .ok (.aload 6, 2) := by decide +kernel
theorem dX5_copy_55 : decode cX5_copy 55 = .ok (.getfield 44, 3) := by decide +kernel
theorem dX5_copy_58 : decode cX5_copy 58 = .ok (.iload_n 2, 1) := by decide +kernel
theorem dX5_copy_59 : decode cX5_copy 59 = .ok (.iload 5, 2) := by decide +kernel
theorem dX5_copy_61 : decode cX5_copy 61 = .ok (.invokevirtual 264, 3) := by decide +kernel
theorem dX5_copy_64 : decode cX5_copy 64 = .ok (.ifCond .eq 18, 3) := by decide +kernel
theorem dX5_copy_67 : decode cX5_copy 67 = .ok (.aload 7, 2) := by decide +kernel
theorem dX5_copy_69 : decode cX5_copy 69 = .ok (.getfield 44, 3) := by decide +kernel
theorem dX5_copy_72 : decode cX5_copy 72 = .ok (.iload 4, 2) := by decide +kernel
theorem dX5_copy_74 : decode cX5_copy 74 = .ok (.iload 5, 2) := by decide +kernel
theorem dX5_copy_76 : decode cX5_copy 76 = .ok (.invokevirtual 264, 3) := by decide +kernel
theorem dX5_copy_79 : decode cX5_copy 79 = .ok (.ifCond .ne 6, 3) := by decide +kernel
theorem dX5_copy_82 : decode cX5_copy 82 = .ok (.bipush (-13), 2) := by decide +kernel
theorem dX5_copy_84 : decode cX5_copy 84 = .ok (.ireturn, 1) := by decide +kernel
theorem dX5_copy_85 : decode cX5_copy 85 = .ok (.aload 6, 2) := by decide +kernel
theorem dX5_copy_87 : decode cX5_copy 87 = .ok (.getfield 44, 3) := by decide +kernel
theorem dX5_copy_90 : decode cX5_copy 90 = .ok (.getfield 267, 3) := by decide +kernel
theorem dX5_copy_93 : decode cX5_copy 93 = .ok (.iload_n 2, 1) := by decide +kernel
theorem dX5_copy_94 : decode cX5_copy 94 = .ok (.aload 7, 2) := by decide +kernel
theorem dX5_copy_96 : decode cX5_copy 96 = .ok (.getfield 44, 3) := by decide +kernel
theorem dX5_copy_99 : decode cX5_copy 99 = .ok (.getfield 267, 3) := by decide +kernel
theorem dX5_copy_102 : decode cX5_copy 102 = .ok (.iload 4, 2) := by decide +kernel
theorem dX5_copy_104 : decode cX5_copy 104 = .ok (.iload 5, 2) := by decide +kernel
theorem dX5_copy_106 : decode cX5_copy 106 = .ok (.invokestatic 270, 3) := by decide +kernel
theorem dX5_copy_109 : decode cX5_copy 109 = .ok (.iload 5, 2) := by decide +kernel
theorem dX5_copy_111 : decode cX5_copy 111 = .ok (.ireturn, 1) := by decide +kernel
set_option maxRecDepth 20000 in
theorem ggX5_depth_X5_shelfAt : GoodIn wsX5_depth wsX5_shelfAt := goodIn_r _ [7, 8, 27, 28, 29, 30, 31, 32, 33] (by decide +kernel) (by decide +kernel)
set_option maxRecDepth 20000 in
theorem gX5_depth_X5_shelfAt : GoodIn wsX5_depth (wsV RX5 36 RX5 yX5_shelfAt wsX5_shelfAt) := goodIn_app (goodIn_of _ (by decide +kernel)) ggX5_depth_X5_shelfAt
set_option maxRecDepth 20000 in
theorem ggX5_depth_X5_personRefusal : GoodIn wsX5_depth wsX5_personRefusal := goodIn_r _ [11, 12, 13, 6, 14, 15, 24, 25, 26] (by decide +kernel) (by decide +kernel)
set_option maxRecDepth 20000 in
theorem gX5_depth_X5_personRefusal : GoodIn wsX5_depth (va_wsS RX5 276 yX5_personRefusal wsX5_personRefusal) := goodIn_app (goodIn_of _ (by decide +kernel)) ggX5_depth_X5_personRefusal
set_option maxRecDepth 20000 in
theorem ggX5_depth_X1_depthOfKind : GoodIn wsX5_depth wsX1_depthOfKind := goodIn_r _ [20, 21, 22, 23, 34, 35, 36, 37] (by decide +kernel) (by decide +kernel)
set_option maxRecDepth 20000 in
theorem gX5_depth_X1_depthOfKind : GoodIn wsX5_depth (wsV RX5 280 RX1 yX1_depthOfKind wsX1_depthOfKind) := goodIn_app (goodIn_of _ (by decide +kernel)) ggX5_depth_X1_depthOfKind
theorem dX5_depth_0 : decode cX5_depth 0 = .ok (.aload_n 0, 1) := by decide +kernel
theorem dX5_depth_1 : decode cX5_depth 1 = .ok (.iload_n 1, 1) := by decide +kernel
theorem dX5_depth_2 : decode cX5_depth 2 = .ok (.invokevirtual 36, 3) := by decide +kernel
theorem dX5_depth_5 : decode cX5_depth 5 = .ok (.astore_n 2, 1) := by decide +kernel
theorem dX5_depth_6 : decode cX5_depth 6 = .ok (.aload_n 2, 1) := by decide +kernel
theorem dX5_depth_7 : decode cX5_depth 7 = .ok (.invokestatic 276, 3) := by decide +kernel
theorem dX5_depth_10 : decode cX5_depth 10 = .ok (.istore_n 3, 1) := by decide +kernel
theorem dX5_depth_11 : decode cX5_depth 11 = .ok (.iload_n 3, 1) := by decide +kernel
theorem dX5_depth_12 : decode cX5_depth 12 = .ok (.ifCond .eq 11, 3) := by decide +kernel
theorem dX5_depth_15 : decode cX5_depth 15 = .ok (.ldc_w 279, 3) := by decide +kernel
theorem dX5_depth_18 : decode cX5_depth 18 = .ok (.iload_n 3, 1) := by decide +kernel
theorem dX5_depth_19 : decode cX5_depth 19 = .ok (.iadd, 1) := by decide +kernel
theorem dX5_depth_20 : decode cX5_depth 20 = .ok (.goto 10, 3) := by decide +kernel
theorem dX5_depth_23 : decode cX5_depth 23 = .ok (.aload_n 2, 1) := by decide +kernel
theorem dX5_depth_24 : decode cX5_depth 24 = .ok (.getfield 234, 3) := by decide +kernel
theorem dX5_depth_27 : decode cX5_depth 27 = .ok (.invokevirtual 280, 3) := by decide +kernel
theorem dX5_depth_30 : decode cX5_depth 30 = .ok (.ireturn, 1) := by decide +kernel
set_option maxRecDepth 20000 in
theorem ggX5_toss_X5_shelfAt : GoodIn wsX5_toss wsX5_shelfAt := goodIn_r _ [10, 11, 44, 45, 46, 47, 48, 49, 50] (by decide +kernel) (by decide +kernel)
set_option maxRecDepth 20000 in
theorem gX5_toss_X5_shelfAt : GoodIn wsX5_toss (wsV RX5 36 RX5 yX5_shelfAt wsX5_shelfAt) := goodIn_app (goodIn_of _ (by decide +kernel)) ggX5_toss_X5_shelfAt
set_option maxRecDepth 20000 in
theorem ggX5_toss_X5_personRefusal : GoodIn wsX5_toss wsX5_personRefusal := goodIn_r _ [14, 15, 16, 9, 17, 18, 37, 38, 39] (by decide +kernel) (by decide +kernel)
set_option maxRecDepth 20000 in
theorem gX5_toss_X5_personRefusal : GoodIn wsX5_toss (va_wsS RX5 276 yX5_personRefusal wsX5_personRefusal) := goodIn_app (goodIn_of _ (by decide +kernel)) ggX5_toss_X5_personRefusal
set_option maxRecDepth 20000 in
theorem ggX5_toss_X1_fail : GoodIn wsX5_toss wsX1_fail := goodIn_ca (goodIn_ca (goodIn_ca (goodIn_r _ [23, 24, 25, 26, 27, 28, 29, 30, 31, 40, 41, 42, 43] (by decide +kernel) (by decide +kernel)) (goodIn_sub (fun _ h => List.mem_cons_of_mem _ (List.mem_append_left _ (List.mem_append_left _ (List.mem_append_right _ h)))) (by decide +kernel))) (goodIn_sub (fun _ h => List.mem_cons_of_mem _ (List.mem_append_left _ (List.mem_append_right _ h))) (by decide +kernel))) (goodIn_sub (fun _ h => List.mem_cons_of_mem _ (List.mem_append_right _ h)) (by decide +kernel))
set_option maxRecDepth 20000 in
theorem gX5_toss_X1_fail : GoodIn wsX5_toss (wsV RX5 283 RX1 yX1_fail wsX1_fail) := goodIn_app (goodIn_of _ (by decide +kernel)) ggX5_toss_X1_fail
set_option maxRecDepth 20000 in
theorem ggX5_toss_X1_depthOfKind : GoodIn wsX5_toss wsX1_depthOfKind := goodIn_r _ [35, 36, 31, 30, 40, 41, 42, 43] (by decide +kernel) (by decide +kernel)
set_option maxRecDepth 20000 in
theorem gX5_toss_X1_depthOfKind : GoodIn wsX5_toss (wsV RX5 280 RX1 yX1_depthOfKind wsX1_depthOfKind) := goodIn_app (goodIn_of _ (by decide +kernel)) ggX5_toss_X1_depthOfKind
theorem dX5_toss_0 : decode cX5_toss 0 = .ok (.aload_n 0, 1) := by decide +kernel
theorem dX5_toss_1 : decode cX5_toss 1 = .ok (.iload_n 1, 1) := by decide +kernel
theorem dX5_toss_2 : decode cX5_toss 2 = .ok (.invokevirtual 36, 3) := by decide +kernel
theorem dX5_toss_5 : decode cX5_toss 5 = .ok (.astore_n 2, 1) := by decide +kernel
theorem dX5_toss_6 : decode cX5_toss 6 = .ok (.aload_n 2, 1) := by decide +kernel
theorem dX5_toss_7 : decode cX5_toss 7 = .ok (.invokestatic 276, 3) := by decide +kernel
theorem dX5_toss_10 : decode cX5_toss 10 = .ok (.istore_n 3, 1) := by decide +kernel
theorem dX5_toss_11 : decode cX5_toss 11 = .ok (.iload_n 3, 1) := by decide +kernel
theorem dX5_toss_12 : decode cX5_toss 12 = .ok (.ifCond .eq 5, 3) := by decide +kernel
theorem dX5_toss_15 : decode cX5_toss 15 = .ok (.iload_n 3, 1) := by decide +kernel
theorem dX5_toss_16 : decode cX5_toss 16 = .ok (.ireturn, 1) := by decide +kernel
theorem dX5_toss_17 : decode cX5_toss 17 = .ok (.aload_n 2, 1) := by decide +kernel
theorem dX5_toss_18 : decode cX5_toss 18 = .ok (.getfield 234, 3) := by decide +kernel
theorem dX5_toss_21 : decode cX5_toss 21 = .ok (.invokevirtual 283, 3) := by decide +kernel
theorem dX5_toss_24 : decode cX5_toss 24 = .ok (.goto 40, 3) := by decide +kernel
theorem dX5_toss_27 : decode cX5_toss 27 = .ok (.astore 4, 2) := by decide +kernel
theorem dX5_toss_29 : decode cX5_toss 29 = .ok (.sipush 200, 3) := by decide +kernel
theorem dX5_toss_32 : decode cX5_toss 32 = .ok (.aload_n 2, 1) := by decide +kernel
theorem dX5_toss_33 : decode cX5_toss 33 = .ok (.getfield 234, 3) := by decide +kernel
theorem dX5_toss_36 : decode cX5_toss 36 = .ok (.invokevirtual 280, 3) := by decide +kernel
theorem dX5_toss_39 : decode cX5_toss 39 = .ok (.iadd, 1) := by decide +kernel
theorem dX5_toss_40 : decode cX5_toss 40 = .ok (.ireturn, 1) := by decide +kernel
theorem dX5_toss_41 : decode cX5_toss 41 = .ok (.astore 4, 2) := by decide +kernel
theorem dX5_toss_43 : decode cX5_toss 43 = .ok (.bipush 100, 2) := by decide +kernel
theorem dX5_toss_45 : decode cX5_toss 45 = .ok (.aload_n 2, 1) := by decide +kernel
theorem dX5_toss_46 : decode cX5_toss 46 = .ok (.getfield 234, 3) := by decide +kernel
theorem dX5_toss_49 : decode cX5_toss 49 = .ok (.getfield 288, 3) := by decide +kernel
theorem dX5_toss_52 : decode cX5_toss 52 = .ok (.iadd, 1) := by decide +kernel
theorem dX5_toss_53 : decode cX5_toss 53 = .ok (.ireturn, 1) := by decide +kernel
theorem dX5_toss_54 : decode cX5_toss 54 = .ok (.astore 4, 2) := by decide +kernel
theorem dX5_toss_56 : decode cX5_toss 56 = .ok (.aload_n 2, 1) := by decide +kernel
theorem dX5_toss_57 : decode cX5_toss 57 = .ok (.getfield 234, 3) := by decide +kernel
theorem dX5_toss_60 : decode cX5_toss 60 = .ok (.getfield 288, 3) := by decide +kernel
theorem dX5_toss_63 : decode cX5_toss 63 = .ok (.ireturn, 1) := by decide +kernel
theorem dX5_toss_64 : decode cX5_toss 64 = .ok (.bipush (-15), 2) := by decide +kernel
theorem dX5_toss_66 : decode cX5_toss 66 = .ok (.ireturn, 1) := by decide +kernel
theorem dX5_shelfAt_0 : decode cX5_shelfAt 0 = .ok (.iload_n 1, 1) := by decide +kernel
theorem dX5_shelfAt_1 : decode cX5_shelfAt 1 = .ok (.ifCond .lt 21, 3) := by decide +kernel
theorem dX5_shelfAt_4 : decode cX5_shelfAt 4 = .ok (.iload_n 1, 1) := by decide +kernel
theorem dX5_shelfAt_5 : decode cX5_shelfAt 5 = .ok (.aload_n 0, 1) := by decide +kernel
theorem dX5_shelfAt_6 : decode cX5_shelfAt 6 = .ok (.getfield 24, 3) := by decide +kernel
theorem dX5_shelfAt_9 : decode cX5_shelfAt 9 = .ok (.arraylength, 1) := by decide +kernel
theorem dX5_shelfAt_10 : decode cX5_shelfAt 10 = .ok (.if_icmp .ge 12, 3) := by decide +kernel
theorem dX5_shelfAt_13 : decode cX5_shelfAt 13 = .ok (.aload_n 0, 1) := by decide +kernel
theorem dX5_shelfAt_14 : decode cX5_shelfAt 14 = .ok (.getfield 24, 3) := by decide +kernel
theorem dX5_shelfAt_17 : decode cX5_shelfAt 17 = .ok (.iload_n 1, 1) := by decide +kernel
theorem dX5_shelfAt_18 : decode cX5_shelfAt 18 = .ok (.aaload, 1) := by decide +kernel
theorem dX5_shelfAt_19 : decode cX5_shelfAt 19 = .ok (.goto 4, 3) := by decide +kernel
theorem dX5_shelfAt_22 : decode cX5_shelfAt 22 = .ok (.aconst_null, 1) := by decide +kernel
theorem dX5_shelfAt_23 : decode cX5_shelfAt 23 = .ok (.areturn, 1) := by decide +kernel
set_option maxRecDepth 20000 in
theorem ggX5_rowRefusal_X5_refusalUnless : GoodIn wsX5_rowRefusal wsX5_refusalUnless := goodIn_r _ [4, 5, 6, 7, 8] (by decide +kernel) (by decide +kernel)
set_option maxRecDepth 20000 in
theorem gX5_rowRefusal_X5_refusalUnless : GoodIn wsX5_rowRefusal (va_wsS RX5 291 yX5_refusalUnless wsX5_refusalUnless) := goodIn_app (goodIn_of _ (by decide +kernel)) ggX5_rowRefusal_X5_refusalUnless
theorem dX5_rowRefusal_0 : decode cX5_rowRefusal 0 = .ok (.aload_n 0, 1) := by decide +kernel
theorem dX5_rowRefusal_1 : decode cX5_rowRefusal 1 = .ok (.iconst 2, 1) := by decide +kernel
theorem dX5_rowRefusal_2 : decode cX5_rowRefusal 2 = .ok (.invokestatic 291, 3) := by decide +kernel
theorem dX5_rowRefusal_5 : decode cX5_rowRefusal 5 = .ok (.ireturn, 1) := by decide +kernel
set_option maxRecDepth 20000 in
theorem ggX5_personRefusal_X5_refusalUnless : GoodIn wsX5_personRefusal wsX5_refusalUnless := goodIn_r _ [4, 5, 6, 7, 8] (by decide +kernel) (by decide +kernel)
set_option maxRecDepth 20000 in
theorem gX5_personRefusal_X5_refusalUnless : GoodIn wsX5_personRefusal (va_wsS RX5 291 yX5_refusalUnless wsX5_refusalUnless) := goodIn_app (goodIn_of _ (by decide +kernel)) ggX5_personRefusal_X5_refusalUnless
theorem dX5_personRefusal_0 : decode cX5_personRefusal 0 = .ok (.aload_n 0, 1) := by decide +kernel
theorem dX5_personRefusal_1 : decode cX5_personRefusal 1 = .ok (.iconst 1, 1) := by decide +kernel
theorem dX5_personRefusal_2 : decode cX5_personRefusal 2 = .ok (.invokestatic 291, 3) := by decide +kernel
theorem dX5_personRefusal_5 : decode cX5_personRefusal 5 = .ok (.ireturn, 1) := by decide +kernel
theorem dX5_refusalUnless_0 : decode cX5_refusalUnless 0 = .ok (.aload_n 0, 1) := by decide +kernel
theorem dX5_refusalUnless_1 : decode cX5_refusalUnless 1 = .ok (.ifnonnull 5, 3) := by decide +kernel
theorem dX5_refusalUnless_4 : decode cX5_refusalUnless 4 = .ok (.iconst (-1), 1) := by decide +kernel
theorem dX5_refusalUnless_5 : decode cX5_refusalUnless 5 = .ok (.ireturn, 1) := by decide +kernel
theorem dX5_refusalUnless_6 : decode cX5_refusalUnless 6 = .ok (.aload_n 0, 1) := by decide +kernel
theorem dX5_refusalUnless_7 : decode cX5_refusalUnless 7 = .ok (.getfield 231, 3) := by decide +kernel
theorem dX5_refusalUnless_10 : decode cX5_refusalUnless 10 = .ok (.ifCond .ne 6, 3) := by decide +kernel
theorem dX5_refusalUnless_13 : decode cX5_refusalUnless 13 = .ok (.bipush (-11), 2) := by decide +kernel
theorem dX5_refusalUnless_15 : decode cX5_refusalUnless 15 = .ok (.ireturn, 1) := by decide +kernel
theorem dX5_refusalUnless_16 : decode cX5_refusalUnless 16 = .ok (.aload_n 0, 1) := by decide +kernel
theorem dX5_refusalUnless_17 : decode cX5_refusalUnless 17 = .ok (.getfield 231, 3) := by decide +kernel
theorem dX5_refusalUnless_20 : decode cX5_refusalUnless 20 = .ok (.iload_n 1, 1) := by decide +kernel
theorem dX5_refusalUnless_21 : decode cX5_refusalUnless 21 = .ok (.if_icmp .ne 7, 3) := by decide +kernel
theorem dX5_refusalUnless_24 : decode cX5_refusalUnless 24 = .ok (.iconst 0, 1) := by decide +kernel
theorem dX5_refusalUnless_25 : decode cX5_refusalUnless 25 = .ok (.goto 5, 3) := by decide +kernel
theorem dX5_refusalUnless_28 : decode cX5_refusalUnless 28 = .ok (.bipush (-12), 2) := by decide +kernel
theorem dX5_refusalUnless_30 : decode cX5_refusalUnless 30 = .ok (.ireturn, 1) := by decide +kernel
theorem dX5_twoRowsRefusal_0 : decode cX5_twoRowsRefusal 0 = .ok (.aload_n 0, 1) := by decide +kernel
theorem dX5_twoRowsRefusal_1 : decode cX5_twoRowsRefusal 1 = .ok (.ifnull 7, 3) := by decide +kernel
theorem dX5_twoRowsRefusal_4 : decode cX5_twoRowsRefusal 4 = .ok (.aload_n 1, 1) := by decide +kernel
theorem dX5_twoRowsRefusal_5 : decode cX5_twoRowsRefusal 5 = .ok (.ifnonnull 5, 3) := by decide +kernel
theorem dX5_twoRowsRefusal_8 : decode cX5_twoRowsRefusal 8 = .ok (.iconst (-1), 1) := by decide +kernel
theorem dX5_twoRowsRefusal_9 : decode cX5_twoRowsRefusal 9 = .ok (.ireturn, 1) := by decide +kernel
theorem dX5_twoRowsRefusal_10 : decode cX5_twoRowsRefusal 10 = .ok (.aload_n 0, 1) := by decide +kernel
theorem dX5_twoRowsRefusal_11 : decode cX5_twoRowsRefusal 11 = .ok (.getfield 231, 3) := by decide +kernel
theorem dX5_twoRowsRefusal_14 : decode cX5_twoRowsRefusal 14 = .ok (.ifCond .eq 10, 3) := by decide +kernel
theorem dX5_twoRowsRefusal_17 : decode cX5_twoRowsRefusal 17 = .ok (.aload_n 1, 1) := by decide +kernel
theorem dX5_twoRowsRefusal_18 : decode cX5_twoRowsRefusal 18 = .ok (.getfield 231, 3) := by decide +kernel
theorem dX5_twoRowsRefusal_21 : decode cX5_twoRowsRefusal 21 = .ok (.ifCond .ne 6, 3) := by decide +kernel
theorem dX5_twoRowsRefusal_24 : decode cX5_twoRowsRefusal 24 = .ok (.bipush (-11), 2) := by decide +kernel
theorem dX5_twoRowsRefusal_26 : decode cX5_twoRowsRefusal 26 = .ok (.ireturn, 1) := by decide +kernel
theorem dX5_twoRowsRefusal_27 : decode cX5_twoRowsRefusal 27 = .ok (.aload_n 0, 1) := by decide +kernel
theorem dX5_twoRowsRefusal_28 : decode cX5_twoRowsRefusal 28 = .ok (.getfield 231, 3) := by decide +kernel
theorem dX5_twoRowsRefusal_31 : decode cX5_twoRowsRefusal 31 = .ok (.iconst 2, 1) := by decide +kernel
theorem dX5_twoRowsRefusal_32 : decode cX5_twoRowsRefusal 32 = .ok (.if_icmp .ne 15, 3) := by decide +kernel
theorem dX5_twoRowsRefusal_35 : decode cX5_twoRowsRefusal 35 = .ok (.aload_n 1, 1) := by decide +kernel
theorem dX5_twoRowsRefusal_36 : decode cX5_twoRowsRefusal 36 = .ok (.getfield 231, 3) := by decide +kernel
theorem dX5_twoRowsRefusal_39 : decode cX5_twoRowsRefusal 39 = .ok (.iconst 2, 1) := by decide +kernel
theorem dX5_twoRowsRefusal_40 : decode cX5_twoRowsRefusal 40 = .ok (.if_icmp .ne 7, 3) := by decide +kernel
theorem dX5_twoRowsRefusal_43 : decode cX5_twoRowsRefusal 43 = .ok (.iconst 0, 1) := by decide +kernel
theorem dX5_twoRowsRefusal_44 : decode cX5_twoRowsRefusal 44 = .ok (.goto 5, 3) := by decide +kernel
theorem dX5_twoRowsRefusal_47 : decode cX5_twoRowsRefusal 47 = .ok (.bipush (-12), 2) := by decide +kernel
theorem dX5_twoRowsRefusal_49 : decode cX5_twoRowsRefusal 49 = .ok (.ireturn, 1) := by decide +kernel
set_option maxRecDepth 20000 in
theorem ggX5_cardsRefusal_X5_rowRefusal : GoodIn wsX5_cardsRefusal wsX5_rowRefusal := goodIn_r _ [6, 7, 8, 5, 9, 10, 36, 37, 38] (by decide +kernel) (by decide +kernel)
set_option maxRecDepth 20000 in
theorem gX5_cardsRefusal_X5_rowRefusal : GoodIn wsX5_cardsRefusal (va_wsS RX5 40 yX5_rowRefusal wsX5_rowRefusal) := goodIn_app (goodIn_of _ (by decide +kernel)) ggX5_cardsRefusal_X5_rowRefusal
set_option maxRecDepth 20000 in
theorem ggX5_cardsRefusal_X0_areCards : GoodIn wsX5_cardsRefusal wsX0_areCards := goodIn_r _ [15, 16, 17, 18, 19, 20, 21, 22, 23, 24, 25, 26, 14, 27, 28, 39, 40, 41, 42, 43, 44, 45, 46, 47, 48, 49, 50, 51] (by decide +kernel) (by decide +kernel)
set_option maxRecDepth 20000 in
theorem gX5_cardsRefusal_X0_areCards : GoodIn wsX5_cardsRefusal (wsV RX5 186 RX0 yX0_areCards wsX0_areCards) := goodIn_app (goodIn_of _ (by decide +kernel)) ggX5_cardsRefusal_X0_areCards
theorem dX5_cardsRefusal_0 : decode cX5_cardsRefusal 0 = .ok (.aload_n 1, 1) := by decide +kernel
theorem dX5_cardsRefusal_1 : decode cX5_cardsRefusal 1 = .ok (.invokestatic 40, 3) := by decide +kernel
theorem dX5_cardsRefusal_4 : decode cX5_cardsRefusal 4 = .ok (.istore_n 2, 1) := by decide +kernel
theorem dX5_cardsRefusal_5 : decode cX5_cardsRefusal 5 = .ok (.iload_n 2, 1) := by decide +kernel
theorem dX5_cardsRefusal_6 : decode cX5_cardsRefusal 6 = .ok (.ifCond .eq 5, 3) := by decide +kernel
theorem dX5_cardsRefusal_9 : decode cX5_cardsRefusal 9 = .ok (.iload_n 2, 1) := by decide +kernel
theorem dX5_cardsRefusal_10 : decode cX5_cardsRefusal 10 = .ok (.ireturn, 1) := by decide +kernel
theorem dX5_cardsRefusal_11 : decode cX5_cardsRefusal 11 = .ok (.aload_n 0, 1) := by decide +kernel
theorem dX5_cardsRefusal_12 : decode cX5_cardsRefusal 12 = .ok (.getfield 10, 3) := by decide +kernel
theorem dX5_cardsRefusal_15 : decode cX5_cardsRefusal 15 = .ok (.aload_n 1, 1) := by decide +kernel
theorem dX5_cardsRefusal_16 : decode cX5_cardsRefusal 16 = .ok (.getfield 44, 3) := by decide +kernel
theorem dX5_cardsRefusal_19 : decode cX5_cardsRefusal 19 = .ok (.invokevirtual 186, 3) := by decide +kernel
theorem dX5_cardsRefusal_22 : decode cX5_cardsRefusal 22 = .ok (.ifCond .eq 7, 3) := by decide +kernel
theorem dX5_cardsRefusal_25 : decode cX5_cardsRefusal 25 = .ok (.iconst 0, 1) := by decide +kernel
theorem dX5_cardsRefusal_26 : decode cX5_cardsRefusal 26 = .ok (.goto 5, 3) := by decide +kernel
theorem dX5_cardsRefusal_29 : decode cX5_cardsRefusal 29 = .ok (.bipush (-13), 2) := by decide +kernel
theorem dX5_cardsRefusal_31 : decode cX5_cardsRefusal 31 = .ok (.ireturn, 1) := by decide +kernel
theorem dX5_isOneOfTwo_0 : decode cX5_isOneOfTwo 0 = .ok (.iload_n 0, 1) := by decide +kernel
theorem dX5_isOneOfTwo_1 : decode cX5_isOneOfTwo 1 = .ok (.ifCond .eq 8, 3) := by decide +kernel
theorem dX5_isOneOfTwo_4 : decode cX5_isOneOfTwo 4 = .ok (.iload_n 0, 1) := by decide +kernel
theorem dX5_isOneOfTwo_5 : decode cX5_isOneOfTwo 5 = .ok (.iconst 1, 1) := by decide +kernel
theorem dX5_isOneOfTwo_6 : decode cX5_isOneOfTwo 6 = .ok (.if_icmp .ne 7, 3) := by decide +kernel
theorem dX5_isOneOfTwo_9 : decode cX5_isOneOfTwo 9 = .ok (.iconst 1, 1) := by decide +kernel
theorem dX5_isOneOfTwo_10 : decode cX5_isOneOfTwo 10 = .ok (.goto 4, 3) := by decide +kernel
theorem dX5_isOneOfTwo_13 : decode cX5_isOneOfTwo 13 = .ok (.iconst 0, 1) := by decide +kernel
theorem dX5_isOneOfTwo_14 : decode cX5_isOneOfTwo 14 = .ok (.ireturn, 1) := by decide +kernel
theorem dX5_isStepCount_0 : decode cX5_isStepCount 0 = .ok (.iload_n 0, 1) := by decide +kernel
theorem dX5_isStepCount_1 : decode cX5_isStepCount 1 = .ok (.ifCond .lt 13, 3) := by decide +kernel
theorem dX5_isStepCount_4 : decode cX5_isStepCount 4 = .ok (.iload_n 0, 1) := by decide +kernel
theorem dX5_isStepCount_5 : decode cX5_isStepCount 5 = .ok (.bipush 9, 2) := by decide +kernel
theorem dX5_isStepCount_7 : decode cX5_isStepCount 7 = .ok (.if_icmp .gt 7, 3) := by decide +kernel
theorem dX5_isStepCount_10 : decode cX5_isStepCount 10 = .ok (.iconst 1, 1) := by decide +kernel
theorem dX5_isStepCount_11 : decode cX5_isStepCount 11 = .ok (.goto 4, 3) := by decide +kernel
theorem dX5_isStepCount_14 : decode cX5_isStepCount 14 = .ok (.iconst 0, 1) := by decide +kernel
theorem dX5_isStepCount_15 : decode cX5_isStepCount 15 = .ok (.ireturn, 1) := by decide +kernel
theorem dX5_over_0 : decode cX5_over 0 = .ok (.iload_n 1, 1) := by decide +kernel
theorem dX5_over_1 : decode cX5_over 1 = .ok (.ifCond .ne 7, 3) := by decide +kernel
theorem dX5_over_4 : decode cX5_over 4 = .ok (.iconst 0, 1) := by decide +kernel
theorem dX5_over_5 : decode cX5_over 5 = .ok (.goto 6, 3) := by decide +kernel
theorem dX5_over_8 : decode cX5_over 8 = .ok (.iload_n 0, 1) := by decide +kernel
theorem dX5_over_9 : decode cX5_over 9 = .ok (.iload_n 1, 1) := by decide +kernel
theorem dX5_over_10 : decode cX5_over 10 = .ok (.idiv, 1) := by decide +kernel
theorem dX5_over_11 : decode cX5_over 11 = .ok (.ireturn, 1) := by decide +kernel
set_option maxRecDepth 20000 in
theorem ggX5_leastPart_X5_commonMeasure : GoodIn wsX5_leastPart wsX5_commonMeasure := goodIn_r _ [4] (by decide +kernel) (by decide +kernel)
set_option maxRecDepth 20000 in
theorem gX5_leastPart_X5_commonMeasure : GoodIn wsX5_leastPart (va_wsS RX5 295 yX5_commonMeasure wsX5_commonMeasure) := goodIn_app (goodIn_of _ (by decide +kernel)) ggX5_leastPart_X5_commonMeasure
set_option maxRecDepth 20000 in
theorem ggX5_leastPart_X5_over : GoodIn wsX5_leastPart wsX5_over := goodIn_r _ [7] (by decide +kernel) (by decide +kernel)
set_option maxRecDepth 20000 in
theorem gX5_leastPart_X5_over : GoodIn wsX5_leastPart (va_wsS RX5 299 yX5_over wsX5_over) := goodIn_app (goodIn_of _ (by decide +kernel)) ggX5_leastPart_X5_over
theorem dX5_leastPart_0 : decode cX5_leastPart 0 = .ok (.iload_n 2, 1) := by decide +kernel
theorem dX5_leastPart_1 : decode cX5_leastPart 1 = .ok (.ifCond .ne 7, 3) := by decide +kernel
theorem dX5_leastPart_4 : decode cX5_leastPart 4 = .ok (.iload_n 0, 1) := by decide +kernel
theorem dX5_leastPart_5 : decode cX5_leastPart 5 = .ok (.goto 4, 3) := by decide +kernel
theorem dX5_leastPart_8 : decode cX5_leastPart 8 = .ok (.iload_n 1, 1) := by decide +kernel
theorem dX5_leastPart_9 : decode cX5_leastPart 9 = .ok (.iload_n 0, 1) := by decide +kernel
theorem dX5_leastPart_10 : decode cX5_leastPart 10 = .ok (.iload_n 1, 1) := by decide +kernel
theorem dX5_leastPart_11 : decode cX5_leastPart 11 = .ok (.invokestatic 295, 3) := by decide +kernel
theorem dX5_leastPart_14 : decode cX5_leastPart 14 = .ok (.invokestatic 299, 3) := by decide +kernel
theorem dX5_leastPart_17 : decode cX5_leastPart 17 = .ok (.ireturn, 1) := by decide +kernel
theorem dX5_commonMeasure_0 : decode cX5_commonMeasure 0 = .ok (.iload_n 0, 1) := by decide +kernel
theorem dX5_commonMeasure_1 : decode cX5_commonMeasure 1 = .ok (.istore_n 2, 1) := by decide +kernel
theorem dX5_commonMeasure_2 : decode cX5_commonMeasure 2 = .ok (.iload_n 1, 1) := by decide +kernel
theorem dX5_commonMeasure_3 : decode cX5_commonMeasure 3 = .ok (.istore_n 3, 1) := by decide +kernel
theorem dX5_commonMeasure_4 : decode cX5_commonMeasure 4 = .ok (.iconst 0, 1) := by decide +kernel
theorem dX5_commonMeasure_5 : decode cX5_commonMeasure 5 = .ok (.istore 4, 2) := by decide +kernel
theorem dX5_commonMeasure_7 : decode cX5_commonMeasure 7 = .ok (.iload 4, 2) := by decide +kernel
theorem dX5_commonMeasure_9 : decode cX5_commonMeasure 9 = .ok (.sipush 1000, 3) := by decide +kernel
theorem dX5_commonMeasure_12 : decode cX5_commonMeasure 12 = .ok (.if_icmp .ge 23, 3) := by decide +kernel
theorem dX5_commonMeasure_15 : decode cX5_commonMeasure 15 = .ok (.iload_n 3, 1) := by decide +kernel
theorem dX5_commonMeasure_16 : decode cX5_commonMeasure 16 = .ok (.ifCond .eq 19, 3) := by decide +kernel
theorem dX5_commonMeasure_19 : decode cX5_commonMeasure 19 = .ok (.iload_n 2, 1) := by decide +kernel
theorem dX5_commonMeasure_20 : decode cX5_commonMeasure 20 = .ok (.iload_n 3, 1) := by decide +kernel
theorem dX5_commonMeasure_21 : decode cX5_commonMeasure 21 = .ok (.irem, 1) := by decide +kernel
theorem dX5_commonMeasure_22 : decode cX5_commonMeasure 22 = .ok (.istore 5, 2) := by decide +kernel
theorem dX5_commonMeasure_24 : decode cX5_commonMeasure 24 = .ok (.iload_n 3, 1) := by decide +kernel
theorem dX5_commonMeasure_25 : decode cX5_commonMeasure 25 = .ok (.istore_n 2, 1) := by decide +kernel
theorem dX5_commonMeasure_26 : decode cX5_commonMeasure 26 = .ok (.iload 5, 2) := by decide +kernel
theorem dX5_commonMeasure_28 : decode cX5_commonMeasure 28 = .ok (.istore_n 3, 1) := by decide +kernel
theorem dX5_commonMeasure_29 : decode cX5_commonMeasure 29 = .ok (.iinc 4 1, 3) := by decide +kernel
theorem dX5_commonMeasure_32 : decode cX5_commonMeasure 32 = .ok (.goto (-25), 3) := by decide +kernel
theorem dX5_commonMeasure_35 : decode cX5_commonMeasure 35 = .ok (.iload_n 2, 1) := by decide +kernel
theorem dX5_commonMeasure_36 : decode cX5_commonMeasure 36 = .ok (.ireturn, 1) := by decide +kernel
theorem dX6_init_0 : decode cX6_init 0 = .ok (.aload_n 0, 1) := by decide +kernel
theorem dX6_init_1 : decode cX6_init 1 = .ok (.invokespecial 1, 3) := by decide +kernel
theorem dX6_init_4 : decode cX6_init 4 = .ok (.aload_n 0, 1) := by decide +kernel
theorem dX6_init_5 : decode cX6_init 5 = .ok (.bipush 55, 2) := by decide +kernel
theorem dX6_init_7 : decode cX6_init 7 = .ok (.newarray .int, 2) := by decide +kernel
theorem dX6_init_9 : decode cX6_init 9 = .ok (.putfield 9, 3) := by decide +kernel
theorem dX6_init_12 : decode cX6_init 12 = .ok (.aload_n 0, 1) := by decide +kernel
theorem dX6_init_13 : decode cX6_init 13 = .ok (.bipush 55, 2) := by decide +kernel
theorem dX6_init_15 : decode cX6_init 15 = .ok (.newarray .int, 2) := by decide +kernel
theorem dX6_init_17 : decode cX6_init 17 = .ok (.putfield 13, 3) := by decide +kernel
theorem dX6_init_20 : decode cX6_init 20 = .ok (.aload_n 0, 1) := by decide +kernel
theorem dX6_init_21 : decode cX6_init 21 = .ok (.bipush 55, 2) := by decide +kernel
theorem dX6_init_23 : decode cX6_init 23 = .ok (.newarray .int, 2) := by decide +kernel
theorem dX6_init_25 : decode cX6_init 25 = .ok (.putfield 16, 3) := by decide +kernel
theorem dX6_init_28 : decode cX6_init 28 = .ok (.aload_n 0, 1) := by decide +kernel
theorem dX6_init_29 : decode cX6_init 29 = .ok (.bipush 55, 2) := by decide +kernel
theorem dX6_init_31 : decode cX6_init 31 = .ok (.newarray .int, 2) := by decide +kernel
theorem dX6_init_33 : decode cX6_init 33 = .ok (.putfield 19, 3) := by decide +kernel
theorem dX6_init_36 : decode cX6_init 36 = .ok (.aload_n 0, 1) := by decide +kernel
theorem dX6_init_37 : decode cX6_init 37 = .ok (.bipush 8, 2) := by decide +kernel
theorem dX6_init_39 : decode cX6_init 39 = .ok (.newarray .int, 2) := by decide +kernel
theorem dX6_init_41 : decode cX6_init 41 = .ok (.putfield 22, 3) := by decide +kernel
theorem dX6_init_44 : decode cX6_init 44 = .ok (.aload_n 0, 1) := by decide +kernel
theorem dX6_init_45 : decode cX6_init 45 = .ok (.bipush 8, 2) := by decide +kernel
theorem dX6_init_47 : decode cX6_init 47 = .ok (.newarray .int, 2) := by decide +kernel
theorem dX6_init_49 : decode cX6_init 49 = .ok (.putfield 25, 3) := by decide +kernel
theorem dX6_init_52 : decode cX6_init 52 = .ok (.aload_n 0, 1) := by decide +kernel
theorem dX6_init_53 : decode cX6_init 53 = .ok (.bipush 8, 2) := by decide +kernel
theorem dX6_init_55 : decode cX6_init 55 = .ok (.newarray .int, 2) := by decide +kernel
theorem dX6_init_57 : decode cX6_init 57 = .ok (.putfield 28, 3) := by decide +kernel
theorem dX6_init_60 : decode cX6_init 60 = .ok (.aload_n 0, 1) := by decide +kernel
theorem dX6_init_61 : decode cX6_init 61 = .ok (.sipush 800, 3) := by decide +kernel
theorem dX6_init_64 : decode cX6_init 64 = .ok (.newarray .int, 2) := by decide +kernel
theorem dX6_init_66 : decode cX6_init 66 = .ok (.putfield 31, 3) := by decide +kernel
theorem dX6_init_69 : decode cX6_init 69 = .ok (.aload_n 0, 1) := by decide +kernel
theorem dX6_init_70 : decode cX6_init 70 = .ok (.bipush 8, 2) := by decide +kernel
theorem dX6_init_72 : decode cX6_init 72 = .ok (.newarray .int, 2) := by decide +kernel
theorem dX6_init_74 : decode cX6_init 74 = .ok (.putfield 34, 3) := by decide +kernel
theorem dX6_init_77 : decode cX6_init 77 = .ok (.aload_n 0, 1) := by decide +kernel
theorem dX6_init_78 : decode cX6_init 78 = .ok (.bipush 8, 2) := by decide +kernel
theorem dX6_init_80 : decode cX6_init 80 = .ok (.newarray .int, 2) := by decide +kernel
theorem dX6_init_82 : decode cX6_init 82 = .ok (.putfield 37, 3) := by decide +kernel
theorem dX6_init_85 : decode cX6_init 85 = .ok (.aload_n 0, 1) := by decide +kernel
theorem dX6_init_86 : decode cX6_init 86 = .ok (.iconst 3, 1) := by decide +kernel
theorem dX6_init_87 : decode cX6_init 87 = .ok (.newarray .int, 2) := by decide +kernel
theorem dX6_init_89 : decode cX6_init 89 = .ok (.putfield 40, 3) := by decide +kernel
theorem dX6_init_92 : decode cX6_init 92 = .ok (.aload_n 0, 1) := by decide +kernel
theorem dX6_init_93 : decode cX6_init 93 = .ok (.bipush 12, 2) := by decide +kernel
theorem dX6_init_95 : decode cX6_init 95 = .ok (.newarray .int, 2) := by decide +kernel
theorem dX6_init_97 : decode cX6_init 97 = .ok (.putfield 43, 3) := by decide +kernel
theorem dX6_init_100 : decode cX6_init 100 = .ok (.aload_n 0, 1) := by decide +kernel
theorem dX6_init_101 : decode cX6_init 101 = .ok (.bipush 100, 2) := by decide +kernel
theorem dX6_init_103 : decode cX6_init 103 = .ok (.newarray .int, 2) := by decide +kernel
theorem dX6_init_105 : decode cX6_init 105 = .ok (.putfield 46, 3) := by decide +kernel
theorem dX6_init_108 : decode cX6_init 108 = .ok (.aload_n 0, 1) := by decide +kernel
theorem dX6_init_109 : decode cX6_init 109 = .ok (.bipush 10, 2) := by decide +kernel
theorem dX6_init_111 : decode cX6_init 111 = .ok (.newarray .int, 2) := by decide +kernel
theorem dX6_init_113 : decode cX6_init 113 = .ok (.putfield 49, 3) := by decide +kernel
theorem dX6_init_116 : decode cX6_init 116 = .ok (.aload_n 0, 1) := by decide +kernel
theorem dX6_init_117 : decode cX6_init 117 = .ok (.getfield 9, 3) := by decide +kernel
theorem dX6_init_120 : decode cX6_init 120 = .ok (.iconst 0, 1) := by decide +kernel
theorem dX6_init_121 : decode cX6_init 121 = .ok (.iconst 2, 1) := by decide +kernel
theorem dX6_init_122 : decode cX6_init 122 = .ok (.iastore, 1) := by decide +kernel
theorem dX6_init_123 : decode cX6_init 123 = .ok (.aload_n 0, 1) := by decide +kernel
theorem dX6_init_124 : decode cX6_init 124 = .ok (.getfield 9, 3) := by decide +kernel
theorem dX6_init_127 : decode cX6_init 127 = .ok (.iconst 1, 1) := by decide +kernel
theorem dX6_init_128 : decode cX6_init 128 = .ok (.iconst 3, 1) := by decide +kernel
theorem dX6_init_129 : decode cX6_init 129 = .ok (.iastore, 1) := by decide +kernel
theorem dX6_init_130 : decode cX6_init 130 = .ok (.aload_n 0, 1) := by decide +kernel
theorem dX6_init_131 : decode cX6_init 131 = .ok (.getfield 9, 3) := by decide +kernel
theorem dX6_init_134 : decode cX6_init 134 = .ok (.iconst 2, 1) := by decide +kernel
theorem dX6_init_135 : decode cX6_init 135 = .ok (.bipush 100, 2) := by decide +kernel
theorem dX6_init_137 : decode cX6_init 137 = .ok (.iastore, 1) := by decide +kernel
theorem dX6_init_138 : decode cX6_init 138 = .ok (.aload_n 0, 1) := by decide +kernel
theorem dX6_init_139 : decode cX6_init 139 = .ok (.getfield 9, 3) := by decide +kernel
theorem dX6_init_142 : decode cX6_init 142 = .ok (.iconst 4, 1) := by decide +kernel
theorem dX6_init_143 : decode cX6_init 143 = .ok (.iconst 1, 1) := by decide +kernel
theorem dX6_init_144 : decode cX6_init 144 = .ok (.iastore, 1) := by decide +kernel
theorem dX6_init_145 : decode cX6_init 145 = .ok (.return_, 1) := by decide +kernel
theorem dX6_thrown_0 : decode cX6_thrown 0 = .ok (.aload_n 0, 1) := by decide +kernel
theorem dX6_thrown_1 : decode cX6_thrown 1 = .ok (.getfield 52, 3) := by decide +kernel
theorem dX6_thrown_4 : decode cX6_thrown 4 = .ok (.ireturn, 1) := by decide +kernel
theorem dX6_isIn_0 : decode cX6_isIn 0 = .ok (.lload_n 0, 1) := by decide +kernel
theorem dX6_isIn_1 : decode cX6_isIn 1 = .ok (.lload_n 2, 1) := by decide +kernel
theorem dX6_isIn_2 : decode cX6_isIn 2 = .ok (.lcmp, 1) := by decide +kernel
theorem dX6_isIn_3 : decode cX6_isIn 3 = .ok (.ifCond .lt 14, 3) := by decide +kernel
theorem dX6_isIn_6 : decode cX6_isIn 6 = .ok (.lload_n 0, 1) := by decide +kernel
theorem dX6_isIn_7 : decode cX6_isIn 7 = .ok (.lload 4, 2) := by decide +kernel
theorem dX6_isIn_9 : decode cX6_isIn 9 = .ok (.lcmp, 1) := by decide +kernel
theorem dX6_isIn_10 : decode cX6_isIn 10 = .ok (.ifCond .gt 7, 3) := by decide +kernel
theorem dX6_isIn_13 : decode cX6_isIn 13 = .ok (.iconst 1, 1) := by decide +kernel
theorem dX6_isIn_14 : decode cX6_isIn 14 = .ok (.goto 4, 3) := by decide +kernel
theorem dX6_isIn_17 : decode cX6_isIn 17 = .ok (.iconst 0, 1) := by decide +kernel
theorem dX6_isIn_18 : decode cX6_isIn 18 = .ok (.ireturn, 1) := by decide +kernel
set_option maxRecDepth 20000 in
theorem ggX6_isPerson_X6_isIn : GoodIn wsX6_isPerson wsX6_isIn := goodIn_r _ [5] (by decide +kernel) (by decide +kernel)
set_option maxRecDepth 20000 in
theorem gX6_isPerson_X6_isIn : GoodIn wsX6_isPerson (va_wsS RX6 56 yX6_isIn wsX6_isIn) := goodIn_app (goodIn_of _ (by decide +kernel)) ggX6_isPerson_X6_isIn
theorem dX6_isPerson_0 : decode cX6_isPerson 0 = .ok (.iload_n 1, 1) := by decide +kernel
theorem dX6_isPerson_1 : decode cX6_isPerson 1 = .ok (.i2l, 1) := by decide +kernel
theorem dX6_isPerson_2 : decode cX6_isPerson 2 = .ok (.lconst 0, 1) := by decide +kernel
theorem dX6_isPerson_3 : decode cX6_isPerson 3 = .ok (.aload_n 0, 1) := by decide +kernel
theorem dX6_isPerson_4 : decode cX6_isPerson 4 = .ok (.getfield 9, 3) := by decide +kernel
theorem dX6_isPerson_7 : decode cX6_isPerson 7 = .ok (.iconst 5, 1) := by decide +kernel
theorem dX6_isPerson_8 : decode cX6_isPerson 8 = .ok (.iaload, 1) := by decide +kernel
theorem dX6_isPerson_9 : decode cX6_isPerson 9 = .ok (.iconst 1, 1) := by decide +kernel
theorem dX6_isPerson_10 : decode cX6_isPerson 10 = .ok (.isub, 1) := by decide +kernel
theorem dX6_isPerson_11 : decode cX6_isPerson 11 = .ok (.i2l, 1) := by decide +kernel
theorem dX6_isPerson_12 : decode cX6_isPerson 12 = .ok (.invokestatic 56, 3) := by decide +kernel
theorem dX6_isPerson_15 : decode cX6_isPerson 15 = .ok (.ireturn, 1) := by decide +kernel
set_option maxRecDepth 20000 in
theorem ggX6_isShelf_X6_isIn : GoodIn wsX6_isShelf wsX6_isIn := goodIn_r _ [5] (by decide +kernel) (by decide +kernel)
set_option maxRecDepth 20000 in
theorem gX6_isShelf_X6_isIn : GoodIn wsX6_isShelf (va_wsS RX6 56 yX6_isIn wsX6_isIn) := goodIn_app (goodIn_of _ (by decide +kernel)) ggX6_isShelf_X6_isIn
theorem dX6_isShelf_0 : decode cX6_isShelf 0 = .ok (.iload_n 0, 1) := by decide +kernel
theorem dX6_isShelf_1 : decode cX6_isShelf 1 = .ok (.i2l, 1) := by decide +kernel
theorem dX6_isShelf_2 : decode cX6_isShelf 2 = .ok (.lconst 0, 1) := by decide +kernel
theorem dX6_isShelf_3 : decode cX6_isShelf 3 = .ok (.ldc2_w 60, 3) := by decide +kernel
theorem dX6_isShelf_6 : decode cX6_isShelf 6 = .ok (.invokestatic 56, 3) := by decide +kernel
theorem dX6_isShelf_9 : decode cX6_isShelf 9 = .ok (.ireturn, 1) := by decide +kernel
theorem dX6_get_0 : decode cX6_get 0 = .ok (.aload_n 0, 1) := by decide +kernel
theorem dX6_get_1 : decode cX6_get 1 = .ok (.getfield 9, 3) := by decide +kernel
theorem dX6_get_4 : decode cX6_get 4 = .ok (.bipush 7, 2) := by decide +kernel
theorem dX6_get_6 : decode cX6_get 6 = .ok (.iconst 4, 1) := by decide +kernel
theorem dX6_get_7 : decode cX6_get 7 = .ok (.iload_n 1, 1) := by decide +kernel
theorem dX6_get_8 : decode cX6_get 8 = .ok (.imul, 1) := by decide +kernel
theorem dX6_get_9 : decode cX6_get 9 = .ok (.iadd, 1) := by decide +kernel
theorem dX6_get_10 : decode cX6_get 10 = .ok (.iload_n 2, 1) := by decide +kernel
theorem dX6_get_11 : decode cX6_get 11 = .ok (.iadd, 1) := by decide +kernel
theorem dX6_get_12 : decode cX6_get 12 = .ok (.iaload, 1) := by decide +kernel
theorem dX6_get_13 : decode cX6_get 13 = .ok (.ireturn, 1) := by decide +kernel
theorem dX6_becomes_0 : decode cX6_becomes 0 = .ok (.aload_n 0, 1) := by decide +kernel
theorem dX6_becomes_1 : decode cX6_becomes 1 = .ok (.getfield 9, 3) := by decide +kernel
theorem dX6_becomes_4 : decode cX6_becomes 4 = .ok (.iload_n 1, 1) := by decide +kernel
theorem dX6_becomes_5 : decode cX6_becomes 5 = .ok (.iaload, 1) := by decide +kernel
theorem dX6_becomes_6 : decode cX6_becomes 6 = .ok (.istore_n 3, 1) := by decide +kernel
theorem dX6_becomes_7 : decode cX6_becomes 7 = .ok (.aload_n 0, 1) := by decide +kernel
theorem dX6_becomes_8 : decode cX6_becomes 8 = .ok (.getfield 9, 3) := by decide +kernel
theorem dX6_becomes_11 : decode cX6_becomes 11 = .ok (.iload_n 1, 1) := by decide +kernel
theorem dX6_becomes_12 : decode cX6_becomes 12 = .ok (.iload_n 2, 1) := by decide +kernel
theorem dX6_becomes_13 : decode cX6_becomes 13 = .ok (.iastore, 1) := by decide +kernel
theorem dX6_becomes_14 : decode cX6_becomes 14 = .ok (.iload_n 3, 1) := by decide +kernel
theorem dX6_becomes_15 : decode cX6_becomes 15 = .ok (.ireturn, 1) := by decide +kernel
theorem dX6_here_0 : decode cX6_here 0 = .ok (.aload_n 0, 1) := by decide +kernel
theorem dX6_here_1 : decode cX6_here 1 = .ok (.getfield 62, 3) := by decide +kernel
theorem dX6_here_4 : decode cX6_here 4 = .ok (.aload_n 0, 1) := by decide +kernel
theorem dX6_here_5 : decode cX6_here 5 = .ok (.getfield 65, 3) := by decide +kernel
theorem dX6_here_8 : decode cX6_here 8 = .ok (.if_icmp .ge 20, 3) := by decide +kernel
theorem dX6_here_11 : decode cX6_here 11 = .ok (.aload_n 0, 1) := by decide +kernel
theorem dX6_here_12 : decode cX6_here 12 = .ok (.getfield 31, 3) := by decide +kernel
theorem dX6_here_15 : decode cX6_here 15 = .ok (.aload_n 0, 1) := by decide +kernel
theorem dX6_here_16 : decode cX6_here 16 = .ok (.getfield 68, 3) := by decide +kernel
theorem dX6_here_19 : decode cX6_here 19 = .ok (.aload_n 0, 1) := by decide +kernel
theorem dX6_here_20 : decode cX6_here 20 = .ok (.getfield 62, 3) := by decide +kernel
theorem dX6_here_23 : decode cX6_here 23 = .ok (.iadd, 1) := by decide +kernel
theorem dX6_here_24 : decode cX6_here 24 = .ok (.iaload, 1) := by decide +kernel
theorem dX6_here_25 : decode cX6_here 25 = .ok (.goto 6, 3) := by decide +kernel
theorem dX6_here_28 : decode cX6_here 28 = .ok (.sipush (-1000), 3) := by decide +kernel
theorem dX6_here_31 : decode cX6_here 31 = .ok (.ireturn, 1) := by decide +kernel
set_option maxRecDepth 20000 in
theorem ggX6_isDigit_X6_here : GoodIn wsX6_isDigit wsX6_here := goodIn_r _ [7, 8, 9, 10, 11, 15, 16, 17, 18, 19, 20, 21, 22, 23, 24, 25, 26, 27, 28, 29, 30, 31, 32, 33, 34, 35] (by decide +kernel) (by decide +kernel)
set_option maxRecDepth 20000 in
theorem gX6_isDigit_X6_here : GoodIn wsX6_isDigit (wsV RX6 71 RX6 yX6_here wsX6_here) := goodIn_app (goodIn_of _ (by decide +kernel)) ggX6_isDigit_X6_here
set_option maxRecDepth 20000 in
theorem ggX6_isDigit_X6_isIn : GoodIn wsX6_isDigit wsX6_isIn := goodIn_r _ [14] (by decide +kernel) (by decide +kernel)
set_option maxRecDepth 20000 in
theorem gX6_isDigit_X6_isIn : GoodIn wsX6_isDigit (va_wsS RX6 56 yX6_isIn wsX6_isIn) := goodIn_app (goodIn_of _ (by decide +kernel)) ggX6_isDigit_X6_isIn
theorem dX6_isDigit_0 : decode cX6_isDigit 0 = .ok (.aload_n 0, 1) := by decide +kernel
theorem dX6_isDigit_1 : decode cX6_isDigit 1 = .ok (.invokevirtual 71, 3) := by decide +kernel
theorem dX6_isDigit_4 : decode cX6_isDigit 4 = .ok (.i2l, 1) := by decide +kernel
theorem dX6_isDigit_5 : decode cX6_isDigit 5 = .ok (.ldc2_w 75, 3) := by decide +kernel
theorem dX6_isDigit_8 : decode cX6_isDigit 8 = .ok (.ldc2_w 77, 3) := by decide +kernel
theorem dX6_isDigit_11 : decode cX6_isDigit 11 = .ok (.invokestatic 56, 3) := by decide +kernel
theorem dX6_isDigit_14 : decode cX6_isDigit 14 = .ok (.ireturn, 1) := by decide +kernel
set_option maxRecDepth 20000 in
theorem ggX6_takes_X6_here : GoodIn wsX6_takes wsX6_here := goodIn_r _ [6, 1, 7, 8, 9, 10, 11, 12, 13, 14, 15, 16, 17, 18, 19, 20, 21, 22, 23, 24, 25, 26, 27, 28, 29, 30] (by decide +kernel) (by decide +kernel)
set_option maxRecDepth 20000 in
theorem gX6_takes_X6_here : GoodIn wsX6_takes (wsV RX6 71 RX6 yX6_here wsX6_here) := goodIn_app (goodIn_of _ (by decide +kernel)) ggX6_takes_X6_here
theorem dX6_takes_0 : decode cX6_takes 0 = .ok (.aload_n 0, 1) := by decide +kernel
theorem dX6_takes_1 : decode cX6_takes 1 = .ok (.invokevirtual 71, 3) := by decide +kernel
theorem dX6_takes_4 : decode cX6_takes 4 = .ok (.iload_n 1, 1) := by decide +kernel
theorem dX6_takes_5 : decode cX6_takes 5 = .ok (.if_icmp .eq 5, 3) := by decide +kernel
theorem dX6_takes_8 : decode cX6_takes 8 = .ok (.iconst 0, 1) := by decide +kernel
theorem dX6_takes_9 : decode cX6_takes 9 = .ok (.ireturn, 1) := by decide +kernel
theorem dX6_takes_10 : decode cX6_takes 10 = .ok (.aload_n 0, 1) := by decide +kernel
theorem dX6_takes_11 : decode cX6_takes 11 = .ok (.dup, 1) := by decide +kernel
theorem dX6_takes_12 : decode cX6_takes 12 = .ok (.getfield 62, 3) := by decide +kernel
theorem dX6_takes_15 : decode cX6_takes 15 = .ok (.iconst 1, 1) := by decide +kernel
theorem dX6_takes_16 : decode cX6_takes 16 = .ok (.iadd, 1) := by decide +kernel
theorem dX6_takes_17 : decode cX6_takes 17 = .ok (.putfield 62, 3) := by decide +kernel
theorem dX6_takes_20 : decode cX6_takes 20 = .ok (.iconst 1, 1) := by decide +kernel
theorem dX6_takes_21 : decode cX6_takes 21 = .ok (.ireturn, 1) := by decide +kernel
set_option maxRecDepth 20000 in
theorem ggX6_readsDigit_X6_isDigit : GoodIn wsX6_readsDigit wsX6_isDigit := goodIn_r _ [8, 9, 10, 11, 12, 13, 7, 14, 3, 15, 16, 17, 18, 19, 20, 21, 22, 23, 24, 25, 26, 27, 28, 29, 30, 31, 32, 33, 34, 35, 36, 37, 38, 39, 40, 41] (by decide +kernel) (by decide +kernel)
set_option maxRecDepth 20000 in
theorem gX6_readsDigit_X6_isDigit : GoodIn wsX6_readsDigit (wsV RX6 79 RX6 yX6_isDigit wsX6_isDigit) := goodIn_app (goodIn_of _ (by decide +kernel)) ggX6_readsDigit_X6_isDigit
set_option maxRecDepth 20000 in
theorem ggX6_readsDigit_X6_here : GoodIn wsX6_readsDigit wsX6_here := goodIn_r _ [14, 3, 15, 16, 17, 21, 22, 23, 24, 25, 26, 27, 28, 29, 30, 31, 32, 33, 34, 35, 36, 37, 38, 39, 40, 41] (by decide +kernel) (by decide +kernel)
set_option maxRecDepth 20000 in
theorem gX6_readsDigit_X6_here : GoodIn wsX6_readsDigit (wsV RX6 71 RX6 yX6_here wsX6_here) := goodIn_app (goodIn_of _ (by decide +kernel)) ggX6_readsDigit_X6_here
theorem dX6_readsDigit_0 : decode cX6_readsDigit 0 = .ok (.aload_n 0, 1) := by decide +kernel
theorem dX6_readsDigit_1 : decode cX6_readsDigit 1 = .ok (.invokevirtual 79, 3) := by decide +kernel
theorem dX6_readsDigit_4 : decode cX6_readsDigit 4 = .ok (.ifCond .ne 5, 3) := by decide +kernel
theorem dX6_readsDigit_7 : decode cX6_readsDigit 7 = .ok (.iconst 0, 1) := by decide +kernel
theorem dX6_readsDigit_8 : decode cX6_readsDigit 8 = .ok (.ireturn, 1) := by decide +kernel
theorem dX6_readsDigit_9 : decode cX6_readsDigit 9 = .ok (.aload_n 0, 1) := by decide +kernel
theorem dX6_readsDigit_10 : decode cX6_readsDigit 10 = .ok (.getfield 40, 3) := by decide +kernel
theorem dX6_readsDigit_13 : decode cX6_readsDigit 13 = .ok (.aload_n 0, 1) := by decide +kernel
theorem dX6_readsDigit_14 : decode cX6_readsDigit 14 = .ok (.getfield 83, 3) := by decide +kernel
theorem dX6_readsDigit_17 : decode cX6_readsDigit 17 = .ok (.aload_n 0, 1) := by decide +kernel
theorem dX6_readsDigit_18 : decode cX6_readsDigit 18 = .ok (.invokevirtual 71, 3) := by decide +kernel
theorem dX6_readsDigit_21 : decode cX6_readsDigit 21 = .ok (.bipush 48, 2) := by decide +kernel
theorem dX6_readsDigit_23 : decode cX6_readsDigit 23 = .ok (.isub, 1) := by decide +kernel
theorem dX6_readsDigit_24 : decode cX6_readsDigit 24 = .ok (.iastore, 1) := by decide +kernel
theorem dX6_readsDigit_25 : decode cX6_readsDigit 25 = .ok (.aload_n 0, 1) := by decide +kernel
theorem dX6_readsDigit_26 : decode cX6_readsDigit 26 = .ok (.dup, 1) := by decide +kernel
theorem dX6_readsDigit_27 : decode cX6_readsDigit 27 = .ok (.getfield 83, 3) := by decide +kernel
theorem dX6_readsDigit_30 : decode cX6_readsDigit 30 = .ok (.iconst 1, 1) := by decide +kernel
theorem dX6_readsDigit_31 : decode cX6_readsDigit 31 = .ok (.iadd, 1) := by decide +kernel
theorem dX6_readsDigit_32 : decode cX6_readsDigit 32 = .ok (.putfield 83, 3) := by decide +kernel
theorem dX6_readsDigit_35 : decode cX6_readsDigit 35 = .ok (.aload_n 0, 1) := by decide +kernel
theorem dX6_readsDigit_36 : decode cX6_readsDigit 36 = .ok (.dup, 1) := by decide +kernel
theorem dX6_readsDigit_37 : decode cX6_readsDigit 37 = .ok (.getfield 62, 3) := by decide +kernel
theorem dX6_readsDigit_40 : decode cX6_readsDigit 40 = .ok (.iconst 1, 1) := by decide +kernel
theorem dX6_readsDigit_41 : decode cX6_readsDigit 41 = .ok (.iadd, 1) := by decide +kernel
theorem dX6_readsDigit_42 : decode cX6_readsDigit 42 = .ok (.putfield 62, 3) := by decide +kernel
theorem dX6_readsDigit_45 : decode cX6_readsDigit 45 = .ok (.iconst 1, 1) := by decide +kernel
theorem dX6_readsDigit_46 : decode cX6_readsDigit 46 = .ok (.ireturn, 1) := by decide +kernel
set_option maxRecDepth 20000 in
theorem ggX6_readsNumber_X6_readsDigit : GoodIn wsX6_readsNumber wsX6_readsDigit := goodIn_r _ [8, 1, 2, 3, 9, 10, 11, 7, 12, 13, 14, 15, 16, 17, 18, 19, 20, 21, 22, 23, 24, 25, 26, 27, 28, 29, 30, 31, 32, 33, 34, 35, 36, 37, 38, 39, 40, 41, 42, 43, 44, 45] (by decide +kernel) (by decide +kernel)
set_option maxRecDepth 20000 in
theorem gX6_readsNumber_X6_readsDigit : GoodIn wsX6_readsNumber (wsV RX6 86 RX6 yX6_readsDigit wsX6_readsDigit) := goodIn_app (goodIn_of _ (by decide +kernel)) ggX6_readsNumber_X6_readsDigit
set_option maxRecDepth 20000 in
theorem ggX6_readsNumber_X6_isDigit : GoodIn wsX6_readsNumber wsX6_isDigit := goodIn_r _ [12, 13, 14, 15, 16, 17, 7, 18, 3, 19, 20, 21, 22, 23, 24, 25, 26, 27, 28, 29, 30, 31, 32, 33, 34, 35, 36, 37, 38, 39, 40, 41, 42, 43, 44, 45] (by decide +kernel) (by decide +kernel)
set_option maxRecDepth 20000 in
theorem gX6_readsNumber_X6_isDigit : GoodIn wsX6_readsNumber (wsV RX6 79 RX6 yX6_isDigit wsX6_isDigit) := goodIn_app (goodIn_of _ (by decide +kernel)) ggX6_readsNumber_X6_isDigit
set_option maxRecDepth 20000 in
theorem ggX6_readsNumber_X6_here : GoodIn wsX6_readsNumber wsX6_here := goodIn_r _ [18, 3, 19, 20, 21, 25, 26, 27, 28, 29, 30, 31, 32, 33, 34, 35, 36, 37, 38, 39, 40, 41, 42, 43, 44, 45] (by decide +kernel) (by decide +kernel)
set_option maxRecDepth 20000 in
theorem gX6_readsNumber_X6_here : GoodIn wsX6_readsNumber (wsV RX6 71 RX6 yX6_here wsX6_here) := goodIn_app (goodIn_of _ (by decide +kernel)) ggX6_readsNumber_X6_here
theorem dX6_readsNumber_0 : decode cX6_readsNumber 0 = .ok (.aload_n 0, 1) := by decide +kernel
theorem dX6_readsNumber_1 : decode cX6_readsNumber 1 = .ok (.invokevirtual 86, 3) := by decide +kernel
theorem dX6_readsNumber_4 : decode cX6_readsNumber 4 = .ok (.ifCond .ne 5, 3) := by decide +kernel
theorem dX6_readsNumber_7 : decode cX6_readsNumber 7 = .ok (.iconst 0, 1) := by decide +kernel
theorem dX6_readsNumber_8 : decode cX6_readsNumber 8 = .ok (.ireturn, 1) := by decide +kernel
theorem dX6_readsNumber_9 : decode cX6_readsNumber 9 = .ok (.aload_n 0, 1) := by decide +kernel
theorem dX6_readsNumber_10 : decode cX6_readsNumber 10 = .ok (.getfield 40, 3) := by decide +kernel
theorem dX6_readsNumber_13 : decode cX6_readsNumber 13 = .ok (.aload_n 0, 1) := by decide +kernel
theorem dX6_readsNumber_14 : decode cX6_readsNumber 14 = .ok (.getfield 83, 3) := by decide +kernel
theorem dX6_readsNumber_17 : decode cX6_readsNumber 17 = .ok (.iconst 1, 1) := by decide +kernel
theorem dX6_readsNumber_18 : decode cX6_readsNumber 18 = .ok (.isub, 1) := by decide +kernel
theorem dX6_readsNumber_19 : decode cX6_readsNumber 19 = .ok (.iaload, 1) := by decide +kernel
theorem dX6_readsNumber_20 : decode cX6_readsNumber 20 = .ok (.istore_n 1, 1) := by decide +kernel
theorem dX6_readsNumber_21 : decode cX6_readsNumber 21 = .ok (.iconst 1, 1) := by decide +kernel
theorem dX6_readsNumber_22 : decode cX6_readsNumber 22 = .ok (.istore_n 2, 1) := by decide +kernel
theorem dX6_readsNumber_23 : decode cX6_readsNumber 23 = .ok (.iload_n 2, 1) := by decide +kernel
theorem dX6_readsNumber_24 : decode cX6_readsNumber 24 = .ok (.iconst 4, 1) := by decide +kernel
theorem dX6_readsNumber_25 : decode cX6_readsNumber 25 = .ok (.if_icmp .ge 43, 3) := by decide +kernel
theorem dX6_readsNumber_28 : decode cX6_readsNumber 28 = .ok (.iload_n 1, 1) := by decide +kernel
theorem dX6_readsNumber_29 : decode cX6_readsNumber 29 = .ok (.ifCond .le 39, 3) := by decide +kernel
theorem dX6_readsNumber_32 : decode cX6_readsNumber 32 = .ok (.aload_n 0, 1) := by decide +kernel
theorem dX6_readsNumber_33 : decode cX6_readsNumber 33 = .ok (.invokevirtual 79, 3) := by decide +kernel
theorem dX6_readsNumber_36 : decode cX6_readsNumber 36 = .ok (.ifCond .eq 32, 3) := by decide +kernel
theorem dX6_readsNumber_39 : decode cX6_readsNumber 39 = .ok (.bipush 10, 2) := by decide +kernel
theorem dX6_readsNumber_41 : decode cX6_readsNumber 41 = .ok (.iload_n 1, 1) := by decide +kernel
theorem dX6_readsNumber_42 : decode cX6_readsNumber 42 = .ok (.imul, 1) := by decide +kernel
theorem dX6_readsNumber_43 : decode cX6_readsNumber 43 = .ok (.aload_n 0, 1) := by decide +kernel
theorem dX6_readsNumber_44 : decode cX6_readsNumber 44 = .ok (.invokevirtual 71, 3) := by decide +kernel
theorem dX6_readsNumber_47 : decode cX6_readsNumber 47 = .ok (.iadd, 1) := by decide +kernel
theorem dX6_readsNumber_48 : decode cX6_readsNumber 48 = .ok (.bipush 48, 2) := by decide +kernel
theorem dX6_readsNumber_50 : decode cX6_readsNumber 50 = .ok (.isub, 1) := by decide +kernel
theorem dX6_readsNumber_51 : decode cX6_readsNumber 51 = .ok (.istore_n 1, 1) := by decide +kernel
theorem dX6_readsNumber_52 : decode cX6_readsNumber 52 = .ok (.aload_n 0, 1) := by decide +kernel
theorem dX6_readsNumber_53 : decode cX6_readsNumber 53 = .ok (.dup, 1) := by decide +kernel
theorem dX6_readsNumber_54 : decode cX6_readsNumber 54 = .ok (.getfield 62, 3) := by decide +kernel
theorem dX6_readsNumber_57 : decode cX6_readsNumber 57 = .ok (.iconst 1, 1) := by decide +kernel
theorem dX6_readsNumber_58 : decode cX6_readsNumber 58 = .ok (.iadd, 1) := by decide +kernel
theorem dX6_readsNumber_59 : decode cX6_readsNumber 59 = .ok (.putfield 62, 3) := by decide +kernel
theorem dX6_readsNumber_62 : decode cX6_readsNumber 62 = .ok (.iinc 2 1, 3) := by decide +kernel
theorem dX6_readsNumber_65 : decode cX6_readsNumber 65 = .ok (.goto (-42), 3) := by decide +kernel
theorem dX6_readsNumber_68 : decode cX6_readsNumber 68 = .ok (.aload_n 0, 1) := by decide +kernel
theorem dX6_readsNumber_69 : decode cX6_readsNumber 69 = .ok (.getfield 40, 3) := by decide +kernel
theorem dX6_readsNumber_72 : decode cX6_readsNumber 72 = .ok (.aload_n 0, 1) := by decide +kernel
theorem dX6_readsNumber_73 : decode cX6_readsNumber 73 = .ok (.getfield 83, 3) := by decide +kernel
theorem dX6_readsNumber_76 : decode cX6_readsNumber 76 = .ok (.iconst 1, 1) := by decide +kernel
theorem dX6_readsNumber_77 : decode cX6_readsNumber 77 = .ok (.isub, 1) := by decide +kernel
theorem dX6_readsNumber_78 : decode cX6_readsNumber 78 = .ok (.iload_n 1, 1) := by decide +kernel
theorem dX6_readsNumber_79 : decode cX6_readsNumber 79 = .ok (.iastore, 1) := by decide +kernel
theorem dX6_readsNumber_80 : decode cX6_readsNumber 80 = .ok (.iconst 1, 1) := by decide +kernel
theorem dX6_readsNumber_81 : decode cX6_readsNumber 81 = .ok (.ireturn, 1) := by decide +kernel
set_option maxRecDepth 20000 in
theorem ggX6_readsStatement_X6_here : GoodIn wsX6_readsStatement wsX6_here := goodIn_r _ [7, 2, 8, 9, 10, 33, 34, 35, 36, 37, 38, 39, 40, 41, 42, 43, 44, 45, 46, 47, 48, 49, 50, 51, 52, 53] (by decide +kernel) (by decide +kernel)
set_option maxRecDepth 20000 in
theorem gX6_readsStatement_X6_here : GoodIn wsX6_readsStatement (wsV RX6 71 RX6 yX6_here wsX6_here) := goodIn_app (goodIn_of _ (by decide +kernel)) ggX6_readsStatement_X6_here
set_option maxRecDepth 20000 in
theorem ggX6_readsStatement_X6_readsDigit : GoodIn wsX6_readsStatement wsX6_readsDigit := goodIn_r _ [14, 15, 1, 2, 16, 17, 18, 6, 19, 20, 21, 3, 4, 5, 7, 8, 9, 10, 22, 23, 24, 33, 34, 35, 36, 37, 38, 39, 40, 41, 42, 43, 44, 45, 46, 47, 48, 49, 50, 51, 52, 53] (by decide +kernel) (by decide +kernel)
set_option maxRecDepth 20000 in
theorem gX6_readsStatement_X6_readsDigit : GoodIn wsX6_readsStatement (wsV RX6 86 RX6 yX6_readsDigit wsX6_readsDigit) := goodIn_app (goodIn_of _ (by decide +kernel)) ggX6_readsStatement_X6_readsDigit
set_option maxRecDepth 20000 in
theorem ggX6_readsStatement_X6_takes : GoodIn wsX6_readsStatement wsX6_takes := goodIn_r _ [28, 2, 3, 4, 5, 6, 7, 8, 9, 10, 33, 34, 35, 36, 37, 38, 39, 40, 41, 42, 43, 44, 45, 46, 47, 48, 49, 50, 51, 52, 53] (by decide +kernel) (by decide +kernel)
set_option maxRecDepth 20000 in
theorem gX6_readsStatement_X6_takes : GoodIn wsX6_readsStatement (wsV RX6 89 RX6 yX6_takes wsX6_takes) := goodIn_app (goodIn_of _ (by decide +kernel)) ggX6_readsStatement_X6_takes
set_option maxRecDepth 20000 in
theorem ggX6_readsStatement_X6_readsNumber : GoodIn wsX6_readsStatement wsX6_readsNumber := goodIn_r _ [32, 15, 1, 2, 11, 12, 13, 6, 14, 16, 17, 18, 19, 20, 21, 3, 4, 5, 7, 8, 9, 10, 22, 23, 24, 33, 34, 35, 36, 37, 38, 39, 40, 41, 42, 43, 44, 45, 46, 47, 48, 49, 50, 51, 52, 53] (by decide +kernel) (by decide +kernel)
set_option maxRecDepth 20000 in
theorem gX6_readsStatement_X6_readsNumber : GoodIn wsX6_readsStatement (wsV RX6 93 RX6 yX6_readsNumber wsX6_readsNumber) := goodIn_app (goodIn_of _ (by decide +kernel)) ggX6_readsStatement_X6_readsNumber
theorem dX6_readsStatement_0 : decode cX6_readsStatement 0 = .ok (.aload_n 0, 1) := by decide +kernel
theorem dX6_readsStatement_1 : decode cX6_readsStatement 1 = .ok (.invokevirtual 71, 3) := by decide +kernel
theorem dX6_readsStatement_4 : decode cX6_readsStatement 4 = .ok (.istore_n 1, 1) := by decide +kernel
theorem dX6_readsStatement_5 : decode cX6_readsStatement 5 = .ok (.aload_n 0, 1) := by decide +kernel
theorem dX6_readsStatement_6 : decode cX6_readsStatement 6 = .ok (.iconst 0, 1) := by decide +kernel
theorem dX6_readsStatement_7 : decode cX6_readsStatement 7 = .ok (.putfield 83, 3) := by decide +kernel
theorem dX6_readsStatement_10 : decode cX6_readsStatement 10 = .ok (.iload_n 1, 1) := by decide +kernel
theorem dX6_readsStatement_11 : decode cX6_readsStatement 11 = .ok (.bipush 112, 2) := by decide +kernel
theorem dX6_readsStatement_13 : decode cX6_readsStatement 13 = .ok (.if_icmp .eq 29, 3) := by decide +kernel
theorem dX6_readsStatement_16 : decode cX6_readsStatement 16 = .ok (.iload_n 1, 1) := by decide +kernel
theorem dX6_readsStatement_17 : decode cX6_readsStatement 17 = .ok (.bipush 103, 2) := by decide +kernel
theorem dX6_readsStatement_19 : decode cX6_readsStatement 19 = .ok (.if_icmp .eq 23, 3) := by decide +kernel
theorem dX6_readsStatement_22 : decode cX6_readsStatement 22 = .ok (.iload_n 1, 1) := by decide +kernel
theorem dX6_readsStatement_23 : decode cX6_readsStatement 23 = .ok (.bipush 104, 2) := by decide +kernel
theorem dX6_readsStatement_25 : decode cX6_readsStatement 25 = .ok (.if_icmp .eq 17, 3) := by decide +kernel
theorem dX6_readsStatement_28 : decode cX6_readsStatement 28 = .ok (.iload_n 1, 1) := by decide +kernel
theorem dX6_readsStatement_29 : decode cX6_readsStatement 29 = .ok (.bipush 98, 2) := by decide +kernel
theorem dX6_readsStatement_31 : decode cX6_readsStatement 31 = .ok (.if_icmp .eq 11, 3) := by decide +kernel
theorem dX6_readsStatement_34 : decode cX6_readsStatement 34 = .ok (.iload_n 1, 1) := by decide +kernel
theorem dX6_readsStatement_35 : decode cX6_readsStatement 35 = .ok (.bipush 110, 2) := by decide +kernel
theorem dX6_readsStatement_37 : decode cX6_readsStatement 37 = .ok (.if_icmp .eq 5, 3) := by decide +kernel
theorem dX6_readsStatement_40 : decode cX6_readsStatement 40 = .ok (.iconst 0, 1) := by decide +kernel
theorem dX6_readsStatement_41 : decode cX6_readsStatement 41 = .ok (.ireturn, 1) := by decide +kernel
theorem dX6_readsStatement_42 : decode cX6_readsStatement 42 = .ok (.aload_n 0, 1) := by decide +kernel
theorem dX6_readsStatement_43 : decode cX6_readsStatement 43 = .ok (.dup, 1) := by decide +kernel
theorem dX6_readsStatement_44 : decode cX6_readsStatement 44 = .ok (.getfield 62, 3) := by decide +kernel
theorem dX6_readsStatement_47 : decode cX6_readsStatement 47 = .ok (.iconst 1, 1) := by decide +kernel
theorem dX6_readsStatement_48 : decode cX6_readsStatement 48 = .ok (.iadd, 1) := by decide +kernel
theorem dX6_readsStatement_49 : decode cX6_readsStatement 49 = .ok (.putfield 62, 3) := by decide +kernel
theorem dX6_readsStatement_52 : decode cX6_readsStatement 52 = .ok (.iload_n 1, 1) := by decide +kernel
theorem dX6_readsStatement_53 : decode cX6_readsStatement 53 = .ok (.bipush 112, 2) := by decide +kernel
theorem dX6_readsStatement_55 : decode cX6_readsStatement 55 = .ok (.if_icmp .ne 44, 3) := by decide +kernel
theorem dX6_readsStatement_58 : decode cX6_readsStatement 58 = .ok (.aload_n 0, 1) := by decide +kernel
theorem dX6_readsStatement_59 : decode cX6_readsStatement 59 = .ok (.invokevirtual 86, 3) := by decide +kernel
theorem dX6_readsStatement_62 : decode cX6_readsStatement 62 = .ok (.ifCond .eq 35, 3) := by decide +kernel
theorem dX6_readsStatement_65 : decode cX6_readsStatement 65 = .ok (.aload_n 0, 1) := by decide +kernel
theorem dX6_readsStatement_66 : decode cX6_readsStatement 66 = .ok (.bipush 32, 2) := by decide +kernel
theorem dX6_readsStatement_68 : decode cX6_readsStatement 68 = .ok (.invokevirtual 89, 3) := by decide +kernel
theorem dX6_readsStatement_71 : decode cX6_readsStatement 71 = .ok (.ifCond .eq 26, 3) := by decide +kernel
theorem dX6_readsStatement_74 : decode cX6_readsStatement 74 = .ok (.aload_n 0, 1) := by decide +kernel
theorem dX6_readsStatement_75 : decode cX6_readsStatement 75 = .ok (.invokevirtual 86, 3) := by decide +kernel
theorem dX6_readsStatement_78 : decode cX6_readsStatement 78 = .ok (.ifCond .eq 19, 3) := by decide +kernel
theorem dX6_readsStatement_81 : decode cX6_readsStatement 81 = .ok (.aload_n 0, 1) := by decide +kernel
theorem dX6_readsStatement_82 : decode cX6_readsStatement 82 = .ok (.bipush 32, 2) := by decide +kernel
theorem dX6_readsStatement_84 : decode cX6_readsStatement 84 = .ok (.invokevirtual 89, 3) := by decide +kernel
theorem dX6_readsStatement_87 : decode cX6_readsStatement 87 = .ok (.ifCond .eq 10, 3) := by decide +kernel
theorem dX6_readsStatement_90 : decode cX6_readsStatement 90 = .ok (.aload_n 0, 1) := by decide +kernel
theorem dX6_readsStatement_91 : decode cX6_readsStatement 91 = .ok (.invokevirtual 93, 3) := by decide +kernel
theorem dX6_readsStatement_94 : decode cX6_readsStatement 94 = .ok (.ifCond .ne 5, 3) := by decide +kernel
theorem dX6_readsStatement_97 : decode cX6_readsStatement 97 = .ok (.iconst 0, 1) := by decide +kernel
theorem dX6_readsStatement_98 : decode cX6_readsStatement 98 = .ok (.ireturn, 1) := by decide +kernel
theorem dX6_readsStatement_99 : decode cX6_readsStatement 99 = .ok (.iload_n 1, 1) := by decide +kernel
theorem dX6_readsStatement_100 : decode cX6_readsStatement 100 = .ok (.bipush 103, 2) := by decide +kernel
theorem dX6_readsStatement_102 : decode cX6_readsStatement 102 = .ok (.if_icmp .ne 28, 3) := by decide +kernel
theorem dX6_readsStatement_105 : decode cX6_readsStatement 105 = .ok (.aload_n 0, 1) := by decide +kernel
theorem dX6_readsStatement_106 : decode cX6_readsStatement 106 = .ok (.invokevirtual 93, 3) := by decide +kernel
theorem dX6_readsStatement_109 : decode cX6_readsStatement 109 = .ok (.ifCond .eq 19, 3) := by decide +kernel
theorem dX6_readsStatement_112 : decode cX6_readsStatement 112 = .ok (.aload_n 0, 1) := by decide +kernel
theorem dX6_readsStatement_113 : decode cX6_readsStatement 113 = .ok (.bipush 47, 2) := by decide +kernel
theorem dX6_readsStatement_115 : decode cX6_readsStatement 115 = .ok (.invokevirtual 89, 3) := by decide +kernel
theorem dX6_readsStatement_118 : decode cX6_readsStatement 118 = .ok (.ifCond .eq 10, 3) := by decide +kernel
theorem dX6_readsStatement_121 : decode cX6_readsStatement 121 = .ok (.aload_n 0, 1) := by decide +kernel
theorem dX6_readsStatement_122 : decode cX6_readsStatement 122 = .ok (.invokevirtual 93, 3) := by decide +kernel
theorem dX6_readsStatement_125 : decode cX6_readsStatement 125 = .ok (.ifCond .ne 5, 3) := by decide +kernel
theorem dX6_readsStatement_128 : decode cX6_readsStatement 128 = .ok (.iconst 0, 1) := by decide +kernel
theorem dX6_readsStatement_129 : decode cX6_readsStatement 129 = .ok (.ireturn, 1) := by decide +kernel
theorem dX6_readsStatement_130 : decode cX6_readsStatement 130 = .ok (.iload_n 1, 1) := by decide +kernel
theorem dX6_readsStatement_131 : decode cX6_readsStatement 131 = .ok (.bipush 104, 2) := by decide +kernel
theorem dX6_readsStatement_133 : decode cX6_readsStatement 133 = .ok (.if_icmp .ne 12, 3) := by decide +kernel
theorem dX6_readsStatement_136 : decode cX6_readsStatement 136 = .ok (.aload_n 0, 1) := by decide +kernel
theorem dX6_readsStatement_137 : decode cX6_readsStatement 137 = .ok (.invokevirtual 93, 3) := by decide +kernel
theorem dX6_readsStatement_140 : decode cX6_readsStatement 140 = .ok (.ifCond .ne 5, 3) := by decide +kernel
theorem dX6_readsStatement_143 : decode cX6_readsStatement 143 = .ok (.iconst 0, 1) := by decide +kernel
theorem dX6_readsStatement_144 : decode cX6_readsStatement 144 = .ok (.ireturn, 1) := by decide +kernel
theorem dX6_readsStatement_145 : decode cX6_readsStatement 145 = .ok (.aload_n 0, 1) := by decide +kernel
theorem dX6_readsStatement_146 : decode cX6_readsStatement 146 = .ok (.bipush 59, 2) := by decide +kernel
theorem dX6_readsStatement_148 : decode cX6_readsStatement 148 = .ok (.invokevirtual 89, 3) := by decide +kernel
theorem dX6_readsStatement_151 : decode cX6_readsStatement 151 = .ok (.ireturn, 1) := by decide +kernel
set_option maxRecDepth 20000 in
theorem ggX6_comes_X6_isShare : GoodIn wsX6_comes wsX6_isShare := goodIn_r _ [7, 8, 9, 10, 6, 11] (by decide +kernel) (by decide +kernel)
set_option maxRecDepth 20000 in
theorem gX6_comes_X6_isShare : GoodIn wsX6_comes (va_wsS RX6 96 yX6_isShare wsX6_isShare) := goodIn_app (goodIn_of _ (by decide +kernel)) ggX6_comes_X6_isShare
set_option maxRecDepth 20000 in
theorem ggX6_comes_X6_isIn : GoodIn wsX6_comes wsX6_isIn := goodIn_r _ [11] (by decide +kernel) (by decide +kernel)
set_option maxRecDepth 20000 in
theorem gX6_comes_X6_isIn : GoodIn wsX6_comes (va_wsS RX6 56 yX6_isIn wsX6_isIn) := goodIn_app (goodIn_of _ (by decide +kernel)) ggX6_comes_X6_isIn
theorem dX6_comes_0 : decode cX6_comes 0 = .ok (.aload_n 0, 1) := by decide +kernel
theorem dX6_comes_1 : decode cX6_comes 1 = .ok (.getfield 16, 3) := by decide +kernel
theorem dX6_comes_4 : decode cX6_comes 4 = .ok (.bipush 6, 2) := by decide +kernel
theorem dX6_comes_6 : decode cX6_comes 6 = .ok (.iaload, 1) := by decide +kernel
theorem dX6_comes_7 : decode cX6_comes 7 = .ok (.ifCond .le 5, 3) := by decide +kernel
theorem dX6_comes_10 : decode cX6_comes 10 = .ok (.iconst 0, 1) := by decide +kernel
theorem dX6_comes_11 : decode cX6_comes 11 = .ok (.ireturn, 1) := by decide +kernel
theorem dX6_comes_12 : decode cX6_comes 12 = .ok (.iload_n 1, 1) := by decide +kernel
theorem dX6_comes_13 : decode cX6_comes 13 = .ok (.lookupswitch 197 #[(103, 130), (104, 170), (112, 35)], 35) := by decide +kernel
theorem dX6_comes_48 : decode cX6_comes 48 = .ok (.aload_n 0, 1) := by decide +kernel
theorem dX6_comes_49 : decode cX6_comes 49 = .ok (.getfield 40, 3) := by decide +kernel
theorem dX6_comes_52 : decode cX6_comes 52 = .ok (.iconst 0, 1) := by decide +kernel
theorem dX6_comes_53 : decode cX6_comes 53 = .ok (.iaload, 1) := by decide +kernel
theorem dX6_comes_54 : decode cX6_comes 54 = .ok (.bipush 7, 2) := by decide +kernel
theorem dX6_comes_56 : decode cX6_comes 56 = .ok (.if_icmp .gt 25, 3) := by decide +kernel
theorem dX6_comes_59 : decode cX6_comes 59 = .ok (.aload_n 0, 1) := by decide +kernel
theorem dX6_comes_60 : decode cX6_comes 60 = .ok (.getfield 40, 3) := by decide +kernel
theorem dX6_comes_63 : decode cX6_comes 63 = .ok (.iconst 2, 1) := by decide +kernel
theorem dX6_comes_64 : decode cX6_comes 64 = .ok (.iaload, 1) := by decide +kernel
theorem dX6_comes_65 : decode cX6_comes 65 = .ok (.bipush 20, 2) := by decide +kernel
theorem dX6_comes_67 : decode cX6_comes 67 = .ok (.if_icmp .gt 14, 3) := by decide +kernel
theorem dX6_comes_70 : decode cX6_comes 70 = .ok (.aload_n 0, 1) := by decide +kernel
theorem dX6_comes_71 : decode cX6_comes 71 = .ok (.getfield 16, 3) := by decide +kernel
theorem dX6_comes_74 : decode cX6_comes 74 = .ok (.iconst 5, 1) := by decide +kernel
theorem dX6_comes_75 : decode cX6_comes 75 = .ok (.iaload, 1) := by decide +kernel
theorem dX6_comes_76 : decode cX6_comes 76 = .ok (.bipush 12, 2) := by decide +kernel
theorem dX6_comes_78 : decode cX6_comes 78 = .ok (.if_icmp .ne 5, 3) := by decide +kernel
theorem dX6_comes_81 : decode cX6_comes 81 = .ok (.iconst 0, 1) := by decide +kernel
theorem dX6_comes_82 : decode cX6_comes 82 = .ok (.ireturn, 1) := by decide +kernel
theorem dX6_comes_83 : decode cX6_comes 83 = .ok (.bipush 7, 2) := by decide +kernel
theorem dX6_comes_85 : decode cX6_comes 85 = .ok (.iconst 4, 1) := by decide +kernel
theorem dX6_comes_86 : decode cX6_comes 86 = .ok (.aload_n 0, 1) := by decide +kernel
theorem dX6_comes_87 : decode cX6_comes 87 = .ok (.getfield 16, 3) := by decide +kernel
theorem dX6_comes_90 : decode cX6_comes 90 = .ok (.iconst 5, 1) := by decide +kernel
theorem dX6_comes_91 : decode cX6_comes 91 = .ok (.iaload, 1) := by decide +kernel
theorem dX6_comes_92 : decode cX6_comes 92 = .ok (.imul, 1) := by decide +kernel
theorem dX6_comes_93 : decode cX6_comes 93 = .ok (.iadd, 1) := by decide +kernel
theorem dX6_comes_94 : decode cX6_comes 94 = .ok (.istore_n 2, 1) := by decide +kernel
theorem dX6_comes_95 : decode cX6_comes 95 = .ok (.iconst 0, 1) := by decide +kernel
theorem dX6_comes_96 : decode cX6_comes 96 = .ok (.istore_n 3, 1) := by decide +kernel
theorem dX6_comes_97 : decode cX6_comes 97 = .ok (.iload_n 3, 1) := by decide +kernel
theorem dX6_comes_98 : decode cX6_comes 98 = .ok (.iconst 3, 1) := by decide +kernel
theorem dX6_comes_99 : decode cX6_comes 99 = .ok (.if_icmp .ge 23, 3) := by decide +kernel
theorem dX6_comes_102 : decode cX6_comes 102 = .ok (.aload_n 0, 1) := by decide +kernel
theorem dX6_comes_103 : decode cX6_comes 103 = .ok (.getfield 16, 3) := by decide +kernel
theorem dX6_comes_106 : decode cX6_comes 106 = .ok (.iload_n 2, 1) := by decide +kernel
theorem dX6_comes_107 : decode cX6_comes 107 = .ok (.iload_n 3, 1) := by decide +kernel
theorem dX6_comes_108 : decode cX6_comes 108 = .ok (.iadd, 1) := by decide +kernel
theorem dX6_comes_109 : decode cX6_comes 109 = .ok (.aload_n 0, 1) := by decide +kernel
theorem dX6_comes_110 : decode cX6_comes 110 = .ok (.getfield 40, 3) := by decide +kernel
theorem dX6_comes_113 : decode cX6_comes 113 = .ok (.iload_n 3, 1) := by decide +kernel
theorem dX6_comes_114 : decode cX6_comes 114 = .ok (.iaload, 1) := by decide +kernel
theorem dX6_comes_115 : decode cX6_comes 115 = .ok (.iastore, 1) := by decide +kernel
theorem dX6_comes_116 : decode cX6_comes 116 = .ok (.iinc 3 1, 3) := by decide +kernel
theorem dX6_comes_119 : decode cX6_comes 119 = .ok (.goto (-22), 3) := by decide +kernel
theorem dX6_comes_122 : decode cX6_comes 122 = .ok (.aload_n 0, 1) := by decide +kernel
theorem dX6_comes_123 : decode cX6_comes 123 = .ok (.getfield 16, 3) := by decide +kernel
theorem dX6_comes_126 : decode cX6_comes 126 = .ok (.iload_n 2, 1) := by decide +kernel
theorem dX6_comes_127 : decode cX6_comes 127 = .ok (.iconst 3, 1) := by decide +kernel
theorem dX6_comes_128 : decode cX6_comes 128 = .ok (.iadd, 1) := by decide +kernel
theorem dX6_comes_129 : decode cX6_comes 129 = .ok (.iconst (-1), 1) := by decide +kernel
theorem dX6_comes_130 : decode cX6_comes 130 = .ok (.iastore, 1) := by decide +kernel
theorem dX6_comes_131 : decode cX6_comes 131 = .ok (.aload_n 0, 1) := by decide +kernel
theorem dX6_comes_132 : decode cX6_comes 132 = .ok (.getfield 16, 3) := by decide +kernel
theorem dX6_comes_135 : decode cX6_comes 135 = .ok (.iconst 5, 1) := by decide +kernel
theorem dX6_comes_136 : decode cX6_comes 136 = .ok (.dup2, 1) := by decide +kernel
theorem dX6_comes_137 : decode cX6_comes 137 = .ok (.iaload, 1) := by decide +kernel
theorem dX6_comes_138 : decode cX6_comes 138 = .ok (.iconst 1, 1) := by decide +kernel
theorem dX6_comes_139 : decode cX6_comes 139 = .ok (.iadd, 1) := by decide +kernel
theorem dX6_comes_140 : decode cX6_comes 140 = .ok (.iastore, 1) := by decide +kernel
theorem dX6_comes_141 : decode cX6_comes 141 = .ok (.iconst 1, 1) := by decide +kernel
theorem dX6_comes_142 : decode cX6_comes 142 = .ok (.ireturn, 1) := by decide +kernel
theorem dX6_comes_143 : decode cX6_comes 143 = .ok (.aload_n 0, 1) := by decide +kernel
theorem dX6_comes_144 : decode cX6_comes 144 = .ok (.getfield 16, 3) := by decide +kernel
theorem dX6_comes_147 : decode cX6_comes 147 = .ok (.iconst 0, 1) := by decide +kernel
theorem dX6_comes_148 : decode cX6_comes 148 = .ok (.aload_n 0, 1) := by decide +kernel
theorem dX6_comes_149 : decode cX6_comes 149 = .ok (.getfield 40, 3) := by decide +kernel
theorem dX6_comes_152 : decode cX6_comes 152 = .ok (.iconst 0, 1) := by decide +kernel
theorem dX6_comes_153 : decode cX6_comes 153 = .ok (.iaload, 1) := by decide +kernel
theorem dX6_comes_154 : decode cX6_comes 154 = .ok (.iastore, 1) := by decide +kernel
theorem dX6_comes_155 : decode cX6_comes 155 = .ok (.aload_n 0, 1) := by decide +kernel
theorem dX6_comes_156 : decode cX6_comes 156 = .ok (.getfield 16, 3) := by decide +kernel
theorem dX6_comes_159 : decode cX6_comes 159 = .ok (.iconst 1, 1) := by decide +kernel
theorem dX6_comes_160 : decode cX6_comes 160 = .ok (.aload_n 0, 1) := by decide +kernel
theorem dX6_comes_161 : decode cX6_comes 161 = .ok (.getfield 40, 3) := by decide +kernel
theorem dX6_comes_164 : decode cX6_comes 164 = .ok (.iconst 1, 1) := by decide +kernel
theorem dX6_comes_165 : decode cX6_comes 165 = .ok (.iaload, 1) := by decide +kernel
theorem dX6_comes_166 : decode cX6_comes 166 = .ok (.iastore, 1) := by decide +kernel
theorem dX6_comes_167 : decode cX6_comes 167 = .ok (.aload_n 0, 1) := by decide +kernel
theorem dX6_comes_168 : decode cX6_comes 168 = .ok (.getfield 40, 3) := by decide +kernel
theorem dX6_comes_171 : decode cX6_comes 171 = .ok (.iconst 0, 1) := by decide +kernel
theorem dX6_comes_172 : decode cX6_comes 172 = .ok (.iaload, 1) := by decide +kernel
theorem dX6_comes_173 : decode cX6_comes 173 = .ok (.aload_n 0, 1) := by decide +kernel
theorem dX6_comes_174 : decode cX6_comes 174 = .ok (.getfield 40, 3) := by decide +kernel
theorem dX6_comes_177 : decode cX6_comes 177 = .ok (.iconst 1, 1) := by decide +kernel
theorem dX6_comes_178 : decode cX6_comes 178 = .ok (.iaload, 1) := by decide +kernel
theorem dX6_comes_179 : decode cX6_comes 179 = .ok (.invokestatic 96, 3) := by decide +kernel
theorem dX6_comes_182 : decode cX6_comes 182 = .ok (.ireturn, 1) := by decide +kernel
theorem dX6_comes_183 : decode cX6_comes 183 = .ok (.aload_n 0, 1) := by decide +kernel
theorem dX6_comes_184 : decode cX6_comes 184 = .ok (.getfield 16, 3) := by decide +kernel
theorem dX6_comes_187 : decode cX6_comes 187 = .ok (.iconst 2, 1) := by decide +kernel
theorem dX6_comes_188 : decode cX6_comes 188 = .ok (.aload_n 0, 1) := by decide +kernel
theorem dX6_comes_189 : decode cX6_comes 189 = .ok (.getfield 40, 3) := by decide +kernel
theorem dX6_comes_192 : decode cX6_comes 192 = .ok (.iconst 0, 1) := by decide +kernel
theorem dX6_comes_193 : decode cX6_comes 193 = .ok (.iaload, 1) := by decide +kernel
theorem dX6_comes_194 : decode cX6_comes 194 = .ok (.iastore, 1) := by decide +kernel
theorem dX6_comes_195 : decode cX6_comes 195 = .ok (.aload_n 0, 1) := by decide +kernel
theorem dX6_comes_196 : decode cX6_comes 196 = .ok (.getfield 40, 3) := by decide +kernel
theorem dX6_comes_199 : decode cX6_comes 199 = .ok (.iconst 0, 1) := by decide +kernel
theorem dX6_comes_200 : decode cX6_comes 200 = .ok (.iaload, 1) := by decide +kernel
theorem dX6_comes_201 : decode cX6_comes 201 = .ok (.i2l, 1) := by decide +kernel
theorem dX6_comes_202 : decode cX6_comes 202 = .ok (.lconst 1, 1) := by decide +kernel
theorem dX6_comes_203 : decode cX6_comes 203 = .ok (.ldc2_w 100, 3) := by decide +kernel
theorem dX6_comes_206 : decode cX6_comes 206 = .ok (.invokestatic 56, 3) := by decide +kernel
theorem dX6_comes_209 : decode cX6_comes 209 = .ok (.ireturn, 1) := by decide +kernel
theorem dX6_comes_210 : decode cX6_comes 210 = .ok (.aload_n 0, 1) := by decide +kernel
theorem dX6_comes_211 : decode cX6_comes 211 = .ok (.getfield 16, 3) := by decide +kernel
theorem dX6_comes_214 : decode cX6_comes 214 = .ok (.iconst 3, 1) := by decide +kernel
theorem dX6_comes_215 : decode cX6_comes 215 = .ok (.iload_n 1, 1) := by decide +kernel
theorem dX6_comes_216 : decode cX6_comes 216 = .ok (.bipush 98, 2) := by decide +kernel
theorem dX6_comes_218 : decode cX6_comes 218 = .ok (.if_icmp .ne 7, 3) := by decide +kernel
theorem dX6_comes_221 : decode cX6_comes 221 = .ok (.iconst 1, 1) := by decide +kernel
theorem dX6_comes_222 : decode cX6_comes 222 = .ok (.goto 4, 3) := by decide +kernel
theorem dX6_comes_225 : decode cX6_comes 225 = .ok (.iconst 0, 1) := by decide +kernel
theorem dX6_comes_226 : decode cX6_comes 226 = .ok (.iastore, 1) := by decide +kernel
theorem dX6_comes_227 : decode cX6_comes 227 = .ok (.iconst 1, 1) := by decide +kernel
theorem dX6_comes_228 : decode cX6_comes 228 = .ok (.ireturn, 1) := by decide +kernel
set_option maxRecDepth 20000 in
theorem ggX6_isShare_X6_isIn : GoodIn wsX6_isShare wsX6_isIn := goodIn_r _ [5] (by decide +kernel) (by decide +kernel)
set_option maxRecDepth 20000 in
theorem gX6_isShare_X6_isIn : GoodIn wsX6_isShare (va_wsS RX6 56 yX6_isIn wsX6_isIn) := goodIn_app (goodIn_of _ (by decide +kernel)) ggX6_isShare_X6_isIn
theorem dX6_isShare_0 : decode cX6_isShare 0 = .ok (.iload_n 0, 1) := by decide +kernel
theorem dX6_isShare_1 : decode cX6_isShare 1 = .ok (.i2l, 1) := by decide +kernel
theorem dX6_isShare_2 : decode cX6_isShare 2 = .ok (.lconst 0, 1) := by decide +kernel
theorem dX6_isShare_3 : decode cX6_isShare 3 = .ok (.ldc2_w 102, 3) := by decide +kernel
theorem dX6_isShare_6 : decode cX6_isShare 6 = .ok (.invokestatic 56, 3) := by decide +kernel
theorem dX6_isShare_9 : decode cX6_isShare 9 = .ok (.ifCond .eq 19, 3) := by decide +kernel
theorem dX6_isShare_12 : decode cX6_isShare 12 = .ok (.iload_n 1, 1) := by decide +kernel
theorem dX6_isShare_13 : decode cX6_isShare 13 = .ok (.i2l, 1) := by decide +kernel
theorem dX6_isShare_14 : decode cX6_isShare 14 = .ok (.lconst 1, 1) := by decide +kernel
theorem dX6_isShare_15 : decode cX6_isShare 15 = .ok (.ldc2_w 102, 3) := by decide +kernel
theorem dX6_isShare_18 : decode cX6_isShare 18 = .ok (.invokestatic 56, 3) := by decide +kernel
theorem dX6_isShare_21 : decode cX6_isShare 21 = .ok (.ifCond .eq 7, 3) := by decide +kernel
theorem dX6_isShare_24 : decode cX6_isShare 24 = .ok (.iconst 1, 1) := by decide +kernel
theorem dX6_isShare_25 : decode cX6_isShare 25 = .ok (.goto 4, 3) := by decide +kernel
theorem dX6_isShare_28 : decode cX6_isShare 28 = .ok (.iconst 0, 1) := by decide +kernel
theorem dX6_isShare_29 : decode cX6_isShare 29 = .ok (.ireturn, 1) := by decide +kernel
set_option maxRecDepth 20000 in
theorem ggX6_wrongRow_X6_isShelf : GoodIn wsX6_wrongRow wsX6_isShelf := goodIn_r _ [6, 7, 8, 9, 5, 10] (by decide +kernel) (by decide +kernel)
set_option maxRecDepth 20000 in
theorem gX6_wrongRow_X6_isShelf : GoodIn wsX6_wrongRow (va_wsS RX6 104 yX6_isShelf wsX6_isShelf) := goodIn_app (goodIn_of _ (by decide +kernel)) ggX6_wrongRow_X6_isShelf
theorem dX6_wrongRow_0 : decode cX6_wrongRow 0 = .ok (.iload_n 1, 1) := by decide +kernel
theorem dX6_wrongRow_1 : decode cX6_wrongRow 1 = .ok (.invokestatic 104, 3) := by decide +kernel
theorem dX6_wrongRow_4 : decode cX6_wrongRow 4 = .ok (.ifCond .ne 7, 3) := by decide +kernel
theorem dX6_wrongRow_7 : decode cX6_wrongRow 7 = .ok (.iconst (-1), 1) := by decide +kernel
theorem dX6_wrongRow_8 : decode cX6_wrongRow 8 = .ok (.goto 47, 3) := by decide +kernel
theorem dX6_wrongRow_11 : decode cX6_wrongRow 11 = .ok (.aload_n 0, 1) := by decide +kernel
theorem dX6_wrongRow_12 : decode cX6_wrongRow 12 = .ok (.getfield 22, 3) := by decide +kernel
theorem dX6_wrongRow_15 : decode cX6_wrongRow 15 = .ok (.iload_n 1, 1) := by decide +kernel
theorem dX6_wrongRow_16 : decode cX6_wrongRow 16 = .ok (.iaload, 1) := by decide +kernel
theorem dX6_wrongRow_17 : decode cX6_wrongRow 17 = .ok (.ifCond .ne 8, 3) := by decide +kernel
theorem dX6_wrongRow_20 : decode cX6_wrongRow 20 = .ok (.bipush (-11), 2) := by decide +kernel
theorem dX6_wrongRow_22 : decode cX6_wrongRow 22 = .ok (.goto 33, 3) := by decide +kernel
theorem dX6_wrongRow_25 : decode cX6_wrongRow 25 = .ok (.aload_n 0, 1) := by decide +kernel
theorem dX6_wrongRow_26 : decode cX6_wrongRow 26 = .ok (.getfield 22, 3) := by decide +kernel
theorem dX6_wrongRow_29 : decode cX6_wrongRow 29 = .ok (.iload_n 1, 1) := by decide +kernel
theorem dX6_wrongRow_30 : decode cX6_wrongRow 30 = .ok (.iaload, 1) := by decide +kernel
theorem dX6_wrongRow_31 : decode cX6_wrongRow 31 = .ok (.iconst 2, 1) := by decide +kernel
theorem dX6_wrongRow_32 : decode cX6_wrongRow 32 = .ok (.if_icmp .ne 17, 3) := by decide +kernel
theorem dX6_wrongRow_35 : decode cX6_wrongRow 35 = .ok (.iload_n 2, 1) := by decide +kernel
theorem dX6_wrongRow_36 : decode cX6_wrongRow 36 = .ok (.ifCond .lt 18, 3) := by decide +kernel
theorem dX6_wrongRow_39 : decode cX6_wrongRow 39 = .ok (.aload_n 0, 1) := by decide +kernel
theorem dX6_wrongRow_40 : decode cX6_wrongRow 40 = .ok (.getfield 25, 3) := by decide +kernel
theorem dX6_wrongRow_43 : decode cX6_wrongRow 43 = .ok (.iload_n 1, 1) := by decide +kernel
theorem dX6_wrongRow_44 : decode cX6_wrongRow 44 = .ok (.iaload, 1) := by decide +kernel
theorem dX6_wrongRow_45 : decode cX6_wrongRow 45 = .ok (.iload_n 2, 1) := by decide +kernel
theorem dX6_wrongRow_46 : decode cX6_wrongRow 46 = .ok (.if_icmp .eq 8, 3) := by decide +kernel
theorem dX6_wrongRow_49 : decode cX6_wrongRow 49 = .ok (.bipush (-12), 2) := by decide +kernel
theorem dX6_wrongRow_51 : decode cX6_wrongRow 51 = .ok (.goto 4, 3) := by decide +kernel
theorem dX6_wrongRow_54 : decode cX6_wrongRow 54 = .ok (.iconst 0, 1) := by decide +kernel
theorem dX6_wrongRow_55 : decode cX6_wrongRow 55 = .ok (.ireturn, 1) := by decide +kernel
set_option maxRecDepth 20000 in
theorem ggX6_crowd_X6_wrongRow : GoodIn wsX6_crowd wsX6_wrongRow := goodIn_r _ [11, 12, 13, 14, 15, 10, 16, 17, 18, 19, 20, 59, 60, 61, 62, 63, 64, 65, 66, 67, 68, 69, 70, 71, 72, 73, 74, 75, 76, 77, 78, 79] (by decide +kernel) (by decide +kernel)
set_option maxRecDepth 20000 in
theorem gX6_crowd_X6_wrongRow : GoodIn wsX6_crowd (wsV RX6 107 RX6 yX6_wrongRow wsX6_wrongRow) := goodIn_app (goodIn_of _ (by decide +kernel)) ggX6_crowd_X6_wrongRow
set_option maxRecDepth 20000 in
theorem ggX6_crowd_X6_readsStatement : GoodIn wsX6_crowd wsX6_readsStatement := goodIn_r _ [24, 25, 4, 26, 27, 28, 10, 29, 3, 30, 1, 31, 32, 33, 34, 35, 36, 37, 38, 39, 40, 41, 18, 19, 20, 42, 43, 44, 45, 46, 47, 48, 49, 59, 60, 61, 62, 63, 64, 65, 66, 67, 68, 69, 70, 71, 72, 73, 74, 75, 76, 77, 78, 79] (by decide +kernel) (by decide +kernel)
set_option maxRecDepth 20000 in
theorem gX6_crowd_X6_readsStatement : GoodIn wsX6_crowd (wsV RX6 111 RX6 yX6_readsStatement wsX6_readsStatement) := goodIn_app (goodIn_of _ (by decide +kernel)) ggX6_crowd_X6_readsStatement
set_option maxRecDepth 20000 in
theorem ggX6_crowd_X6_here : GoodIn wsX6_crowd wsX6_here := goodIn_r _ [29, 4, 3, 30, 1, 59, 60, 61, 62, 63, 64, 65, 66, 67, 68, 69, 70, 71, 72, 73, 74, 75, 76, 77, 78, 79] (by decide +kernel) (by decide +kernel)
set_option maxRecDepth 20000 in
theorem gX6_crowd_X6_here : GoodIn wsX6_crowd (wsV RX6 71 RX6 yX6_here wsX6_here) := goodIn_app (goodIn_of _ (by decide +kernel)) ggX6_crowd_X6_here
set_option maxRecDepth 20000 in
theorem ggX6_crowd_X6_comes : GoodIn wsX6_crowd wsX6_comes := goodIn_r _ [53, 5, 35, 54, 55, 56, 10, 57, 58, 18, 19, 20, 59, 60, 61, 62, 63, 64, 65, 66, 67, 68, 69, 70, 71, 72, 73, 74, 75, 76, 77, 78, 79] (by decide +kernel) (by decide +kernel)
set_option maxRecDepth 20000 in
theorem gX6_crowd_X6_comes : GoodIn wsX6_crowd (wsV RX6 114 RX6 yX6_comes wsX6_comes) := goodIn_app (goodIn_of _ (by decide +kernel)) ggX6_crowd_X6_comes
theorem dX6_crowd_0 : decode cX6_crowd 0 = .ok (.aload_n 0, 1) := by decide +kernel
theorem dX6_crowd_1 : decode cX6_crowd 1 = .ok (.iload_n 1, 1) := by decide +kernel
theorem dX6_crowd_2 : decode cX6_crowd 2 = .ok (.iconst 0, 1) := by decide +kernel
theorem dX6_crowd_3 : decode cX6_crowd 3 = .ok (.invokevirtual 107, 3) := by decide +kernel
theorem dX6_crowd_6 : decode cX6_crowd 6 = .ok (.istore_n 2, 1) := by decide +kernel
theorem dX6_crowd_7 : decode cX6_crowd 7 = .ok (.iload_n 2, 1) := by decide +kernel
theorem dX6_crowd_8 : decode cX6_crowd 8 = .ok (.ifCond .eq 5, 3) := by decide +kernel
theorem dX6_crowd_11 : decode cX6_crowd 11 = .ok (.iload_n 2, 1) := by decide +kernel
theorem dX6_crowd_12 : decode cX6_crowd 12 = .ok (.ireturn, 1) := by decide +kernel
theorem dX6_crowd_13 : decode cX6_crowd 13 = .ok (.aload_n 0, 1) := by decide +kernel
theorem dX6_crowd_14 : decode cX6_crowd 14 = .ok (.bipush 100, 2) := by decide +kernel
theorem dX6_crowd_16 : decode cX6_crowd 16 = .ok (.iload_n 1, 1) := by decide +kernel
theorem dX6_crowd_17 : decode cX6_crowd 17 = .ok (.imul, 1) := by decide +kernel
theorem dX6_crowd_18 : decode cX6_crowd 18 = .ok (.putfield 68, 3) := by decide +kernel
theorem dX6_crowd_21 : decode cX6_crowd 21 = .ok (.aload_n 0, 1) := by decide +kernel
theorem dX6_crowd_22 : decode cX6_crowd 22 = .ok (.aload_n 0, 1) := by decide +kernel
theorem dX6_crowd_23 : decode cX6_crowd 23 = .ok (.getfield 28, 3) := by decide +kernel
theorem dX6_crowd_26 : decode cX6_crowd 26 = .ok (.iload_n 1, 1) := by decide +kernel
theorem dX6_crowd_27 : decode cX6_crowd 27 = .ok (.iaload, 1) := by decide +kernel
theorem dX6_crowd_28 : decode cX6_crowd 28 = .ok (.putfield 65, 3) := by decide +kernel
theorem dX6_crowd_31 : decode cX6_crowd 31 = .ok (.aload_n 0, 1) := by decide +kernel
theorem dX6_crowd_32 : decode cX6_crowd 32 = .ok (.iconst 0, 1) := by decide +kernel
theorem dX6_crowd_33 : decode cX6_crowd 33 = .ok (.putfield 62, 3) := by decide +kernel
theorem dX6_crowd_36 : decode cX6_crowd 36 = .ok (.iconst 0, 1) := by decide +kernel
theorem dX6_crowd_37 : decode cX6_crowd 37 = .ok (.istore_n 3, 1) := by decide +kernel
theorem dX6_crowd_38 : decode cX6_crowd 38 = .ok (.aload_n 0, 1) := by decide +kernel
theorem dX6_crowd_39 : decode cX6_crowd 39 = .ok (.invokevirtual 111, 3) := by decide +kernel
theorem dX6_crowd_42 : decode cX6_crowd 42 = .ok (.ifCond .ne 12, 3) := by decide +kernel
theorem dX6_crowd_45 : decode cX6_crowd 45 = .ok (.sipush (-1000), 3) := by decide +kernel
theorem dX6_crowd_48 : decode cX6_crowd 48 = .ok (.aload_n 0, 1) := by decide +kernel
theorem dX6_crowd_49 : decode cX6_crowd 49 = .ok (.getfield 62, 3) := by decide +kernel
theorem dX6_crowd_52 : decode cX6_crowd 52 = .ok (.isub, 1) := by decide +kernel
theorem dX6_crowd_53 : decode cX6_crowd 53 = .ok (.ireturn, 1) := by decide +kernel
theorem dX6_crowd_54 : decode cX6_crowd 54 = .ok (.iinc 3 1, 3) := by decide +kernel
theorem dX6_crowd_57 : decode cX6_crowd 57 = .ok (.aload_n 0, 1) := by decide +kernel
theorem dX6_crowd_58 : decode cX6_crowd 58 = .ok (.getfield 62, 3) := by decide +kernel
theorem dX6_crowd_61 : decode cX6_crowd 61 = .ok (.aload_n 0, 1) := by decide +kernel
theorem dX6_crowd_62 : decode cX6_crowd 62 = .ok (.getfield 65, 3) := by decide +kernel
theorem dX6_crowd_65 : decode cX6_crowd 65 = .ok (.if_icmp .lt (-27), 3) := by decide +kernel
theorem dX6_crowd_68 : decode cX6_crowd 68 = .ok (.iconst 0, 1) := by decide +kernel
theorem dX6_crowd_69 : decode cX6_crowd 69 = .ok (.istore 4, 2) := by decide +kernel
theorem dX6_crowd_71 : decode cX6_crowd 71 = .ok (.iload 4, 2) := by decide +kernel
theorem dX6_crowd_73 : decode cX6_crowd 73 = .ok (.bipush 55, 2) := by decide +kernel
theorem dX6_crowd_75 : decode cX6_crowd 75 = .ok (.if_icmp .ge 23, 3) := by decide +kernel
theorem dX6_crowd_78 : decode cX6_crowd 78 = .ok (.aload_n 0, 1) := by decide +kernel
theorem dX6_crowd_79 : decode cX6_crowd 79 = .ok (.getfield 16, 3) := by decide +kernel
theorem dX6_crowd_82 : decode cX6_crowd 82 = .ok (.iload 4, 2) := by decide +kernel
theorem dX6_crowd_84 : decode cX6_crowd 84 = .ok (.aload_n 0, 1) := by decide +kernel
theorem dX6_crowd_85 : decode cX6_crowd 85 = .ok (.getfield 9, 3) := by decide +kernel
theorem dX6_crowd_88 : decode cX6_crowd 88 = .ok (.iload 4, 2) := by decide +kernel
theorem dX6_crowd_90 : decode cX6_crowd 90 = .ok (.iaload, 1) := by decide +kernel
theorem dX6_crowd_91 : decode cX6_crowd 91 = .ok (.iastore, 1) := by decide +kernel
theorem dX6_crowd_92 : decode cX6_crowd 92 = .ok (.iinc 4 1, 3) := by decide +kernel
theorem dX6_crowd_95 : decode cX6_crowd 95 = .ok (.goto (-24), 3) := by decide +kernel
theorem dX6_crowd_98 : decode cX6_crowd 98 = .ok (.aload_n 0, 1) := by decide +kernel
theorem dX6_crowd_99 : decode cX6_crowd 99 = .ok (.iconst 0, 1) := by decide +kernel
theorem dX6_crowd_100 : decode cX6_crowd 100 = .ok (.putfield 62, 3) := by decide +kernel
theorem dX6_crowd_103 : decode cX6_crowd 103 = .ok (.aload_n 0, 1) := by decide +kernel
theorem dX6_crowd_104 : decode cX6_crowd 104 = .ok (.getfield 62, 3) := by decide +kernel
theorem dX6_crowd_107 : decode cX6_crowd 107 = .ok (.aload_n 0, 1) := by decide +kernel
theorem dX6_crowd_108 : decode cX6_crowd 108 = .ok (.getfield 65, 3) := by decide +kernel
theorem dX6_crowd_111 : decode cX6_crowd 111 = .ok (.if_icmp .ge 40, 3) := by decide +kernel
theorem dX6_crowd_114 : decode cX6_crowd 114 = .ok (.aload_n 0, 1) := by decide +kernel
theorem dX6_crowd_115 : decode cX6_crowd 115 = .ok (.getfield 62, 3) := by decide +kernel
theorem dX6_crowd_118 : decode cX6_crowd 118 = .ok (.istore 4, 2) := by decide +kernel
theorem dX6_crowd_120 : decode cX6_crowd 120 = .ok (.aload_n 0, 1) := by decide +kernel
theorem dX6_crowd_121 : decode cX6_crowd 121 = .ok (.invokevirtual 71, 3) := by decide +kernel
theorem dX6_crowd_124 : decode cX6_crowd 124 = .ok (.istore 5, 2) := by decide +kernel
theorem dX6_crowd_126 : decode cX6_crowd 126 = .ok (.aload_n 0, 1) := by decide +kernel
theorem dX6_crowd_127 : decode cX6_crowd 127 = .ok (.invokevirtual 111, 3) := by decide +kernel
theorem dX6_crowd_130 : decode cX6_crowd 130 = .ok (.istore 6, 2) := by decide +kernel
theorem dX6_crowd_132 : decode cX6_crowd 132 = .ok (.aload_n 0, 1) := by decide +kernel
theorem dX6_crowd_133 : decode cX6_crowd 133 = .ok (.iload 5, 2) := by decide +kernel
theorem dX6_crowd_135 : decode cX6_crowd 135 = .ok (.invokevirtual 114, 3) := by decide +kernel
theorem dX6_crowd_138 : decode cX6_crowd 138 = .ok (.ifCond .ne 10, 3) := by decide +kernel
theorem dX6_crowd_141 : decode cX6_crowd 141 = .ok (.sipush (-2000), 3) := by decide +kernel
theorem dX6_crowd_144 : decode cX6_crowd 144 = .ok (.iload 4, 2) := by decide +kernel
theorem dX6_crowd_146 : decode cX6_crowd 146 = .ok (.isub, 1) := by decide +kernel
theorem dX6_crowd_147 : decode cX6_crowd 147 = .ok (.ireturn, 1) := by decide +kernel
theorem dX6_crowd_148 : decode cX6_crowd 148 = .ok (.goto (-45), 3) := by decide +kernel
theorem dX6_crowd_151 : decode cX6_crowd 151 = .ok (.iconst 0, 1) := by decide +kernel
theorem dX6_crowd_152 : decode cX6_crowd 152 = .ok (.istore 4, 2) := by decide +kernel
theorem dX6_crowd_154 : decode cX6_crowd 154 = .ok (.iload 4, 2) := by decide +kernel
theorem dX6_crowd_156 : decode cX6_crowd 156 = .ok (.bipush 55, 2) := by decide +kernel
theorem dX6_crowd_158 : decode cX6_crowd 158 = .ok (.if_icmp .ge 23, 3) := by decide +kernel
theorem dX6_crowd_161 : decode cX6_crowd 161 = .ok (.aload_n 0, 1) := by decide +kernel
theorem dX6_crowd_162 : decode cX6_crowd 162 = .ok (.getfield 9, 3) := by decide +kernel
theorem dX6_crowd_165 : decode cX6_crowd 165 = .ok (.iload 4, 2) := by decide +kernel
theorem dX6_crowd_167 : decode cX6_crowd 167 = .ok (.aload_n 0, 1) := by decide +kernel
theorem dX6_crowd_168 : decode cX6_crowd 168 = .ok (.getfield 16, 3) := by decide +kernel
theorem dX6_crowd_171 : decode cX6_crowd 171 = .ok (.iload 4, 2) := by decide +kernel
theorem dX6_crowd_173 : decode cX6_crowd 173 = .ok (.iaload, 1) := by decide +kernel
theorem dX6_crowd_174 : decode cX6_crowd 174 = .ok (.iastore, 1) := by decide +kernel
theorem dX6_crowd_175 : decode cX6_crowd 175 = .ok (.iinc 4 1, 3) := by decide +kernel
theorem dX6_crowd_178 : decode cX6_crowd 178 = .ok (.goto (-24), 3) := by decide +kernel
theorem dX6_crowd_181 : decode cX6_crowd 181 = .ok (.iload_n 3, 1) := by decide +kernel
theorem dX6_crowd_182 : decode cX6_crowd 182 = .ok (.ireturn, 1) := by decide +kernel
set_option maxRecDepth 20000 in
theorem ggX6_of_X6_isPerson : GoodIn wsX6_of wsX6_isPerson := goodIn_r _ [6, 7, 8, 9, 5, 10, 15, 16, 17, 18, 19, 20, 21, 22, 23, 24, 25, 26, 27, 28, 29, 30, 31, 32, 33, 34, 35] (by decide +kernel) (by decide +kernel)
set_option maxRecDepth 20000 in
theorem gX6_of_X6_isPerson : GoodIn wsX6_of (wsV RX6 117 RX6 yX6_isPerson wsX6_isPerson) := goodIn_app (goodIn_of _ (by decide +kernel)) ggX6_of_X6_isPerson
set_option maxRecDepth 20000 in
theorem ggX6_of_X6_isIn : GoodIn wsX6_of wsX6_isIn := goodIn_r _ [10] (by decide +kernel) (by decide +kernel)
set_option maxRecDepth 20000 in
theorem gX6_of_X6_isIn : GoodIn wsX6_of (va_wsS RX6 56 yX6_isIn wsX6_isIn) := goodIn_app (goodIn_of _ (by decide +kernel)) ggX6_of_X6_isIn
set_option maxRecDepth 20000 in
theorem ggX6_of_X6_get : GoodIn wsX6_of wsX6_get := goodIn_r _ [14, 7, 15, 16, 17, 18, 19, 20, 21, 22, 23, 24, 25, 26, 27, 28, 29, 30, 31, 32, 33, 34, 35] (by decide +kernel) (by decide +kernel)
set_option maxRecDepth 20000 in
theorem gX6_of_X6_get : GoodIn wsX6_of (wsV RX6 122 RX6 yX6_get wsX6_get) := goodIn_app (goodIn_of _ (by decide +kernel)) ggX6_of_X6_get
theorem dX6_of_0 : decode cX6_of 0 = .ok (.aload_n 0, 1) := by decide +kernel
theorem dX6_of_1 : decode cX6_of 1 = .ok (.iload_n 1, 1) := by decide +kernel
theorem dX6_of_2 : decode cX6_of 2 = .ok (.invokevirtual 117, 3) := by decide +kernel
theorem dX6_of_5 : decode cX6_of 5 = .ok (.ifCond .eq 15, 3) := by decide +kernel
theorem dX6_of_8 : decode cX6_of 8 = .ok (.iload_n 2, 1) := by decide +kernel
theorem dX6_of_9 : decode cX6_of 9 = .ok (.i2l, 1) := by decide +kernel
theorem dX6_of_10 : decode cX6_of 10 = .ok (.lconst 0, 1) := by decide +kernel
theorem dX6_of_11 : decode cX6_of 11 = .ok (.ldc2_w 120, 3) := by decide +kernel
theorem dX6_of_14 : decode cX6_of 14 = .ok (.invokestatic 56, 3) := by decide +kernel
theorem dX6_of_17 : decode cX6_of 17 = .ok (.ifCond .ne 7, 3) := by decide +kernel
theorem dX6_of_20 : decode cX6_of 20 = .ok (.iconst (-1), 1) := by decide +kernel
theorem dX6_of_21 : decode cX6_of 21 = .ok (.goto 28, 3) := by decide +kernel
theorem dX6_of_24 : decode cX6_of 24 = .ok (.iload_n 2, 1) := by decide +kernel
theorem dX6_of_25 : decode cX6_of 25 = .ok (.iconst 3, 1) := by decide +kernel
theorem dX6_of_26 : decode cX6_of 26 = .ok (.if_icmp .ne 17, 3) := by decide +kernel
theorem dX6_of_29 : decode cX6_of 29 = .ok (.aload_n 0, 1) := by decide +kernel
theorem dX6_of_30 : decode cX6_of 30 = .ok (.iload_n 1, 1) := by decide +kernel
theorem dX6_of_31 : decode cX6_of 31 = .ok (.iconst 3, 1) := by decide +kernel
theorem dX6_of_32 : decode cX6_of 32 = .ok (.invokevirtual 122, 3) := by decide +kernel
theorem dX6_of_35 : decode cX6_of 35 = .ok (.ifCond .ge 8, 3) := by decide +kernel
theorem dX6_of_38 : decode cX6_of 38 = .ok (.bipush (-4), 2) := by decide +kernel
theorem dX6_of_40 : decode cX6_of 40 = .ok (.goto 9, 3) := by decide +kernel
theorem dX6_of_43 : decode cX6_of 43 = .ok (.aload_n 0, 1) := by decide +kernel
theorem dX6_of_44 : decode cX6_of 44 = .ok (.iload_n 1, 1) := by decide +kernel
theorem dX6_of_45 : decode cX6_of 45 = .ok (.iload_n 2, 1) := by decide +kernel
theorem dX6_of_46 : decode cX6_of 46 = .ok (.invokevirtual 122, 3) := by decide +kernel
theorem dX6_of_49 : decode cX6_of 49 = .ok (.ireturn, 1) := by decide +kernel
set_option maxRecDepth 20000 in
theorem ggX6_isValue_X6_isIn : GoodIn wsX6_isValue wsX6_isIn := goodIn_r _ [6] (by decide +kernel) (by decide +kernel)
set_option maxRecDepth 20000 in
theorem gX6_isValue_X6_isIn : GoodIn wsX6_isValue (va_wsS RX6 56 yX6_isIn wsX6_isIn) := goodIn_app (goodIn_of _ (by decide +kernel)) ggX6_isValue_X6_isIn
theorem dX6_isValue_0 : decode cX6_isValue 0 = .ok (.iload_n 0, 1) := by decide +kernel
theorem dX6_isValue_1 : decode cX6_isValue 1 = .ok (.tableswitch 69 0 3 #[31, 41, 51, 61], 31) := by decide +kernel
theorem dX6_isValue_32 : decode cX6_isValue 32 = .ok (.iload_n 1, 1) := by decide +kernel
theorem dX6_isValue_33 : decode cX6_isValue 33 = .ok (.i2l, 1) := by decide +kernel
theorem dX6_isValue_34 : decode cX6_isValue 34 = .ok (.lconst 0, 1) := by decide +kernel
theorem dX6_isValue_35 : decode cX6_isValue 35 = .ok (.ldc2_w 102, 3) := by decide +kernel
theorem dX6_isValue_38 : decode cX6_isValue 38 = .ok (.invokestatic 56, 3) := by decide +kernel
theorem dX6_isValue_41 : decode cX6_isValue 41 = .ok (.ireturn, 1) := by decide +kernel
theorem dX6_isValue_42 : decode cX6_isValue 42 = .ok (.iload_n 1, 1) := by decide +kernel
theorem dX6_isValue_43 : decode cX6_isValue 43 = .ok (.i2l, 1) := by decide +kernel
theorem dX6_isValue_44 : decode cX6_isValue 44 = .ok (.lconst 1, 1) := by decide +kernel
theorem dX6_isValue_45 : decode cX6_isValue 45 = .ok (.ldc2_w 102, 3) := by decide +kernel
theorem dX6_isValue_48 : decode cX6_isValue 48 = .ok (.invokestatic 56, 3) := by decide +kernel
theorem dX6_isValue_51 : decode cX6_isValue 51 = .ok (.ireturn, 1) := by decide +kernel
theorem dX6_isValue_52 : decode cX6_isValue 52 = .ok (.iload_n 1, 1) := by decide +kernel
theorem dX6_isValue_53 : decode cX6_isValue 53 = .ok (.i2l, 1) := by decide +kernel
theorem dX6_isValue_54 : decode cX6_isValue 54 = .ok (.lconst 1, 1) := by decide +kernel
theorem dX6_isValue_55 : decode cX6_isValue 55 = .ok (.ldc2_w 100, 3) := by decide +kernel
theorem dX6_isValue_58 : decode cX6_isValue 58 = .ok (.invokestatic 56, 3) := by decide +kernel
theorem dX6_isValue_61 : decode cX6_isValue 61 = .ok (.ireturn, 1) := by decide +kernel
theorem dX6_isValue_62 : decode cX6_isValue 62 = .ok (.iload_n 1, 1) := by decide +kernel
theorem dX6_isValue_63 : decode cX6_isValue 63 = .ok (.i2l, 1) := by decide +kernel
theorem dX6_isValue_64 : decode cX6_isValue 64 = .ok (.lconst 0, 1) := by decide +kernel
theorem dX6_isValue_65 : decode cX6_isValue 65 = .ok (.lconst 1, 1) := by decide +kernel
theorem dX6_isValue_66 : decode cX6_isValue 66 = .ok (.invokestatic 56, 3) := by decide +kernel
theorem dX6_isValue_69 : decode cX6_isValue 69 = .ok (.ireturn, 1) := by decide +kernel
theorem dX6_isValue_70 : decode cX6_isValue 70 = .ok (.iload_n 0, 1) := by decide +kernel
theorem dX6_isValue_71 : decode cX6_isValue 71 = .ok (.iconst 4, 1) := by decide +kernel
theorem dX6_isValue_72 : decode cX6_isValue 72 = .ok (.if_icmp .ne 7, 3) := by decide +kernel
theorem dX6_isValue_75 : decode cX6_isValue 75 = .ok (.iconst 1, 1) := by decide +kernel
theorem dX6_isValue_76 : decode cX6_isValue 76 = .ok (.goto 4, 3) := by decide +kernel
theorem dX6_isValue_79 : decode cX6_isValue 79 = .ok (.iconst 0, 1) := by decide +kernel
theorem dX6_isValue_80 : decode cX6_isValue 80 = .ok (.ireturn, 1) := by decide +kernel
set_option maxRecDepth 20000 in
theorem ggX6_set_X6_isValue : GoodIn wsX6_set wsX6_isValue := goodIn_r _ [5, 6, 7, 8, 9, 4, 10] (by decide +kernel) (by decide +kernel)
set_option maxRecDepth 20000 in
theorem gX6_set_X6_isValue : GoodIn wsX6_set (va_wsS RX6 125 yX6_isValue wsX6_isValue) := goodIn_app (goodIn_of _ (by decide +kernel)) ggX6_set_X6_isValue
set_option maxRecDepth 20000 in
theorem ggX6_set_X6_becomes : GoodIn wsX6_set wsX6_becomes := goodIn_r _ [14, 1, 15, 16, 17, 18, 19, 20, 21, 22, 23, 24, 25, 26, 27, 28, 29, 30, 31, 32, 33, 34, 35] (by decide +kernel) (by decide +kernel)
set_option maxRecDepth 20000 in
theorem gX6_set_X6_becomes : GoodIn wsX6_set (wsV RX6 128 RX6 yX6_becomes wsX6_becomes) := goodIn_app (goodIn_of _ (by decide +kernel)) ggX6_set_X6_becomes
theorem dX6_set_0 : decode cX6_set 0 = .ok (.iload_n 1, 1) := by decide +kernel
theorem dX6_set_1 : decode cX6_set 1 = .ok (.iload_n 2, 1) := by decide +kernel
theorem dX6_set_2 : decode cX6_set 2 = .ok (.invokestatic 125, 3) := by decide +kernel
theorem dX6_set_5 : decode cX6_set 5 = .ok (.ifCond .ne 7, 3) := by decide +kernel
theorem dX6_set_8 : decode cX6_set 8 = .ok (.iconst (-1), 1) := by decide +kernel
theorem dX6_set_9 : decode cX6_set 9 = .ok (.goto 29, 3) := by decide +kernel
theorem dX6_set_12 : decode cX6_set 12 = .ok (.iload_n 1, 1) := by decide +kernel
theorem dX6_set_13 : decode cX6_set 13 = .ok (.iconst 4, 1) := by decide +kernel
theorem dX6_set_14 : decode cX6_set 14 = .ok (.if_icmp .eq 18, 3) := by decide +kernel
theorem dX6_set_17 : decode cX6_set 17 = .ok (.aload_n 0, 1) := by decide +kernel
theorem dX6_set_18 : decode cX6_set 18 = .ok (.getfield 9, 3) := by decide +kernel
theorem dX6_set_21 : decode cX6_set 21 = .ok (.bipush 6, 2) := by decide +kernel
theorem dX6_set_23 : decode cX6_set 23 = .ok (.iaload, 1) := by decide +kernel
theorem dX6_set_24 : decode cX6_set 24 = .ok (.ifCond .le 8, 3) := by decide +kernel
theorem dX6_set_27 : decode cX6_set 27 = .ok (.bipush (-3), 2) := by decide +kernel
theorem dX6_set_29 : decode cX6_set 29 = .ok (.goto 9, 3) := by decide +kernel
theorem dX6_set_32 : decode cX6_set 32 = .ok (.aload_n 0, 1) := by decide +kernel
theorem dX6_set_33 : decode cX6_set 33 = .ok (.iload_n 1, 1) := by decide +kernel
theorem dX6_set_34 : decode cX6_set 34 = .ok (.iload_n 2, 1) := by decide +kernel
theorem dX6_set_35 : decode cX6_set 35 = .ok (.invokevirtual 128, 3) := by decide +kernel
theorem dX6_set_38 : decode cX6_set 38 = .ok (.ireturn, 1) := by decide +kernel
set_option maxRecDepth 20000 in
theorem ggX6_steps_X6_isPerson : GoodIn wsX6_steps wsX6_isPerson := goodIn_r _ [6, 7, 8, 9, 5, 10, 15, 16, 17, 18, 19, 20, 21, 22, 23, 24, 25, 26, 27, 28, 29, 30, 31, 32, 33, 34, 35] (by decide +kernel) (by decide +kernel)
set_option maxRecDepth 20000 in
theorem gX6_steps_X6_isPerson : GoodIn wsX6_steps (wsV RX6 117 RX6 yX6_isPerson wsX6_isPerson) := goodIn_app (goodIn_of _ (by decide +kernel)) ggX6_steps_X6_isPerson
set_option maxRecDepth 20000 in
theorem ggX6_steps_X6_isIn : GoodIn wsX6_steps wsX6_isIn := goodIn_r _ [10] (by decide +kernel) (by decide +kernel)
set_option maxRecDepth 20000 in
theorem gX6_steps_X6_isIn : GoodIn wsX6_steps (va_wsS RX6 56 yX6_isIn wsX6_isIn) := goodIn_app (goodIn_of _ (by decide +kernel)) ggX6_steps_X6_isIn
set_option maxRecDepth 20000 in
theorem ggX6_steps_X6_becomes : GoodIn wsX6_steps wsX6_becomes := goodIn_r _ [14, 7, 15, 16, 17, 18, 19, 20, 21, 22, 23, 24, 25, 26, 27, 28, 29, 30, 31, 32, 33, 34, 35] (by decide +kernel) (by decide +kernel)
set_option maxRecDepth 20000 in
theorem gX6_steps_X6_becomes : GoodIn wsX6_steps (wsV RX6 128 RX6 yX6_becomes wsX6_becomes) := goodIn_app (goodIn_of _ (by decide +kernel)) ggX6_steps_X6_becomes
theorem dX6_steps_0 : decode cX6_steps 0 = .ok (.aload_n 0, 1) := by decide +kernel
theorem dX6_steps_1 : decode cX6_steps 1 = .ok (.iload_n 1, 1) := by decide +kernel
theorem dX6_steps_2 : decode cX6_steps 2 = .ok (.invokevirtual 117, 3) := by decide +kernel
theorem dX6_steps_5 : decode cX6_steps 5 = .ok (.ifCond .eq 31, 3) := by decide +kernel
theorem dX6_steps_8 : decode cX6_steps 8 = .ok (.iload_n 2, 1) := by decide +kernel
theorem dX6_steps_9 : decode cX6_steps 9 = .ok (.i2l, 1) := by decide +kernel
theorem dX6_steps_10 : decode cX6_steps 10 = .ok (.lconst 0, 1) := by decide +kernel
theorem dX6_steps_11 : decode cX6_steps 11 = .ok (.ldc2_w 131, 3) := by decide +kernel
theorem dX6_steps_14 : decode cX6_steps 14 = .ok (.invokestatic 56, 3) := by decide +kernel
theorem dX6_steps_17 : decode cX6_steps 17 = .ok (.ifCond .eq 19, 3) := by decide +kernel
theorem dX6_steps_20 : decode cX6_steps 20 = .ok (.aload_n 0, 1) := by decide +kernel
theorem dX6_steps_21 : decode cX6_steps 21 = .ok (.bipush 7, 2) := by decide +kernel
theorem dX6_steps_23 : decode cX6_steps 23 = .ok (.iconst 4, 1) := by decide +kernel
theorem dX6_steps_24 : decode cX6_steps 24 = .ok (.iload_n 1, 1) := by decide +kernel
theorem dX6_steps_25 : decode cX6_steps 25 = .ok (.imul, 1) := by decide +kernel
theorem dX6_steps_26 : decode cX6_steps 26 = .ok (.iadd, 1) := by decide +kernel
theorem dX6_steps_27 : decode cX6_steps 27 = .ok (.iconst 1, 1) := by decide +kernel
theorem dX6_steps_28 : decode cX6_steps 28 = .ok (.iadd, 1) := by decide +kernel
theorem dX6_steps_29 : decode cX6_steps 29 = .ok (.iload_n 2, 1) := by decide +kernel
theorem dX6_steps_30 : decode cX6_steps 30 = .ok (.invokevirtual 128, 3) := by decide +kernel
theorem dX6_steps_33 : decode cX6_steps 33 = .ok (.goto 4, 3) := by decide +kernel
theorem dX6_steps_36 : decode cX6_steps 36 = .ok (.iconst (-1), 1) := by decide +kernel
theorem dX6_steps_37 : decode cX6_steps 37 = .ok (.ireturn, 1) := by decide +kernel
theorem dX6_held_0 : decode cX6_held 0 = .ok (.iload_n 1, 1) := by decide +kernel
theorem dX6_held_1 : decode cX6_held 1 = .ok (.ifCond .ge 7, 3) := by decide +kernel
theorem dX6_held_4 : decode cX6_held 4 = .ok (.iconst 0, 1) := by decide +kernel
theorem dX6_held_5 : decode cX6_held 5 = .ok (.goto 23, 3) := by decide +kernel
theorem dX6_held_8 : decode cX6_held 8 = .ok (.iload_n 1, 1) := by decide +kernel
theorem dX6_held_9 : decode cX6_held 9 = .ok (.aload_n 0, 1) := by decide +kernel
theorem dX6_held_10 : decode cX6_held 10 = .ok (.getfield 9, 3) := by decide +kernel
theorem dX6_held_13 : decode cX6_held 13 = .ok (.iconst 2, 1) := by decide +kernel
theorem dX6_held_14 : decode cX6_held 14 = .ok (.iaload, 1) := by decide +kernel
theorem dX6_held_15 : decode cX6_held 15 = .ok (.if_icmp .le 12, 3) := by decide +kernel
theorem dX6_held_18 : decode cX6_held 18 = .ok (.aload_n 0, 1) := by decide +kernel
theorem dX6_held_19 : decode cX6_held 19 = .ok (.getfield 9, 3) := by decide +kernel
theorem dX6_held_22 : decode cX6_held 22 = .ok (.iconst 2, 1) := by decide +kernel
theorem dX6_held_23 : decode cX6_held 23 = .ok (.iaload, 1) := by decide +kernel
theorem dX6_held_24 : decode cX6_held 24 = .ok (.goto 4, 3) := by decide +kernel
theorem dX6_held_27 : decode cX6_held 27 = .ok (.iload_n 1, 1) := by decide +kernel
theorem dX6_held_28 : decode cX6_held 28 = .ok (.ireturn, 1) := by decide +kernel
set_option maxRecDepth 20000 in
theorem ggX6_shareOf_X6_held : GoodIn wsX6_shareOf wsX6_held := goodIn_r _ [5, 6, 7, 8, 9, 10, 11, 12, 13, 14, 15, 16, 17, 18, 19, 20, 21, 22, 23, 24, 25, 26, 27] (by decide +kernel) (by decide +kernel)
set_option maxRecDepth 20000 in
theorem gX6_shareOf_X6_held : GoodIn wsX6_shareOf (wsV RX6 133 RX6 yX6_held wsX6_held) := goodIn_app (goodIn_of _ (by decide +kernel)) ggX6_shareOf_X6_held
theorem dX6_shareOf_0 : decode cX6_shareOf 0 = .ok (.aload_n 0, 1) := by decide +kernel
theorem dX6_shareOf_1 : decode cX6_shareOf 1 = .ok (.iload_n 2, 1) := by decide +kernel
theorem dX6_shareOf_2 : decode cX6_shareOf 2 = .ok (.iload_n 1, 1) := by decide +kernel
theorem dX6_shareOf_3 : decode cX6_shareOf 3 = .ok (.imul, 1) := by decide +kernel
theorem dX6_shareOf_4 : decode cX6_shareOf 4 = .ok (.iload_n 3, 1) := by decide +kernel
theorem dX6_shareOf_5 : decode cX6_shareOf 5 = .ok (.idiv, 1) := by decide +kernel
theorem dX6_shareOf_6 : decode cX6_shareOf 6 = .ok (.invokevirtual 133, 3) := by decide +kernel
theorem dX6_shareOf_9 : decode cX6_shareOf 9 = .ok (.ireturn, 1) := by decide +kernel
set_option maxRecDepth 20000 in
theorem ggX6_levelBy_X6_shareOf : GoodIn wsX6_levelBy wsX6_shareOf := goodIn_r _ [6, 7, 8, 9, 5, 10, 1, 11, 12, 13, 14, 15, 16, 17, 18, 19, 20, 21, 22, 23, 24, 25, 26, 27, 28, 29, 30, 31] (by decide +kernel) (by decide +kernel)
set_option maxRecDepth 20000 in
theorem gX6_levelBy_X6_shareOf : GoodIn wsX6_levelBy (wsV RX6 137 RX6 yX6_shareOf wsX6_shareOf) := goodIn_app (goodIn_of _ (by decide +kernel)) ggX6_levelBy_X6_shareOf
theorem dX6_levelBy_0 : decode cX6_levelBy 0 = .ok (.aload_n 0, 1) := by decide +kernel
theorem dX6_levelBy_1 : decode cX6_levelBy 1 = .ok (.getfield 9, 3) := by decide +kernel
theorem dX6_levelBy_4 : decode cX6_levelBy 4 = .ok (.iconst 2, 1) := by decide +kernel
theorem dX6_levelBy_5 : decode cX6_levelBy 5 = .ok (.iaload, 1) := by decide +kernel
theorem dX6_levelBy_6 : decode cX6_levelBy 6 = .ok (.iconst 2, 1) := by decide +kernel
theorem dX6_levelBy_7 : decode cX6_levelBy 7 = .ok (.idiv, 1) := by decide +kernel
theorem dX6_levelBy_8 : decode cX6_levelBy 8 = .ok (.istore 4, 2) := by decide +kernel
theorem dX6_levelBy_10 : decode cX6_levelBy 10 = .ok (.iconst 0, 1) := by decide +kernel
theorem dX6_levelBy_11 : decode cX6_levelBy 11 = .ok (.istore 5, 2) := by decide +kernel
theorem dX6_levelBy_13 : decode cX6_levelBy 13 = .ok (.iload 5, 2) := by decide +kernel
theorem dX6_levelBy_15 : decode cX6_levelBy 15 = .ok (.iload_n 1, 1) := by decide +kernel
theorem dX6_levelBy_16 : decode cX6_levelBy 16 = .ok (.if_icmp .ge 19, 3) := by decide +kernel
theorem dX6_levelBy_19 : decode cX6_levelBy 19 = .ok (.aload_n 0, 1) := by decide +kernel
theorem dX6_levelBy_20 : decode cX6_levelBy 20 = .ok (.iload 4, 2) := by decide +kernel
theorem dX6_levelBy_22 : decode cX6_levelBy 22 = .ok (.iload_n 2, 1) := by decide +kernel
theorem dX6_levelBy_23 : decode cX6_levelBy 23 = .ok (.iload_n 3, 1) := by decide +kernel
theorem dX6_levelBy_24 : decode cX6_levelBy 24 = .ok (.invokevirtual 137, 3) := by decide +kernel
theorem dX6_levelBy_27 : decode cX6_levelBy 27 = .ok (.istore 4, 2) := by decide +kernel
theorem dX6_levelBy_29 : decode cX6_levelBy 29 = .ok (.iinc 5 1, 3) := by decide +kernel
theorem dX6_levelBy_32 : decode cX6_levelBy 32 = .ok (.goto (-19), 3) := by decide +kernel
theorem dX6_levelBy_35 : decode cX6_levelBy 35 = .ok (.iload 4, 2) := by decide +kernel
theorem dX6_levelBy_37 : decode cX6_levelBy 37 = .ok (.ireturn, 1) := by decide +kernel
set_option maxRecDepth 20000 in
theorem ggX6_mixed_X6_shareOf : GoodIn wsX6_mixed wsX6_shareOf := goodIn_r _ [6, 7, 8, 9, 5, 10, 1, 11, 12, 13, 14, 15, 16, 17, 18, 19, 20, 21, 22, 23, 24, 25, 26, 27, 28, 29, 30, 31] (by decide +kernel) (by decide +kernel)
set_option maxRecDepth 20000 in
theorem gX6_mixed_X6_shareOf : GoodIn wsX6_mixed (wsV RX6 137 RX6 yX6_shareOf wsX6_shareOf) := goodIn_app (goodIn_of _ (by decide +kernel)) ggX6_mixed_X6_shareOf
theorem dX6_mixed_0 : decode cX6_mixed 0 = .ok (.aload_n 0, 1) := by decide +kernel
theorem dX6_mixed_1 : decode cX6_mixed 1 = .ok (.getfield 9, 3) := by decide +kernel
theorem dX6_mixed_4 : decode cX6_mixed 4 = .ok (.iconst 2, 1) := by decide +kernel
theorem dX6_mixed_5 : decode cX6_mixed 5 = .ok (.iaload, 1) := by decide +kernel
theorem dX6_mixed_6 : decode cX6_mixed 6 = .ok (.iconst 2, 1) := by decide +kernel
theorem dX6_mixed_7 : decode cX6_mixed 7 = .ok (.idiv, 1) := by decide +kernel
theorem dX6_mixed_8 : decode cX6_mixed 8 = .ok (.istore 4, 2) := by decide +kernel
theorem dX6_mixed_10 : decode cX6_mixed 10 = .ok (.iconst 0, 1) := by decide +kernel
theorem dX6_mixed_11 : decode cX6_mixed 11 = .ok (.istore 5, 2) := by decide +kernel
theorem dX6_mixed_13 : decode cX6_mixed 13 = .ok (.iconst 0, 1) := by decide +kernel
theorem dX6_mixed_14 : decode cX6_mixed 14 = .ok (.istore 6, 2) := by decide +kernel
theorem dX6_mixed_16 : decode cX6_mixed 16 = .ok (.iload 6, 2) := by decide +kernel
theorem dX6_mixed_18 : decode cX6_mixed 18 = .ok (.iload_n 1, 1) := by decide +kernel
theorem dX6_mixed_19 : decode cX6_mixed 19 = .ok (.if_icmp .ge 31, 3) := by decide +kernel
theorem dX6_mixed_22 : decode cX6_mixed 22 = .ok (.iload 5, 2) := by decide +kernel
theorem dX6_mixed_24 : decode cX6_mixed 24 = .ok (.iload 4, 2) := by decide +kernel
theorem dX6_mixed_26 : decode cX6_mixed 26 = .ok (.iadd, 1) := by decide +kernel
theorem dX6_mixed_27 : decode cX6_mixed 27 = .ok (.istore 5, 2) := by decide +kernel
theorem dX6_mixed_29 : decode cX6_mixed 29 = .ok (.aload_n 0, 1) := by decide +kernel
theorem dX6_mixed_30 : decode cX6_mixed 30 = .ok (.iload 5, 2) := by decide +kernel
theorem dX6_mixed_32 : decode cX6_mixed 32 = .ok (.iload 6, 2) := by decide +kernel
theorem dX6_mixed_34 : decode cX6_mixed 34 = .ok (.iconst 1, 1) := by decide +kernel
theorem dX6_mixed_35 : decode cX6_mixed 35 = .ok (.iadd, 1) := by decide +kernel
theorem dX6_mixed_36 : decode cX6_mixed 36 = .ok (.idiv, 1) := by decide +kernel
theorem dX6_mixed_37 : decode cX6_mixed 37 = .ok (.iload_n 2, 1) := by decide +kernel
theorem dX6_mixed_38 : decode cX6_mixed 38 = .ok (.iload_n 3, 1) := by decide +kernel
theorem dX6_mixed_39 : decode cX6_mixed 39 = .ok (.invokevirtual 137, 3) := by decide +kernel
theorem dX6_mixed_42 : decode cX6_mixed 42 = .ok (.istore 4, 2) := by decide +kernel
theorem dX6_mixed_44 : decode cX6_mixed 44 = .ok (.iinc 6 1, 3) := by decide +kernel
theorem dX6_mixed_47 : decode cX6_mixed 47 = .ok (.goto (-31), 3) := by decide +kernel
theorem dX6_mixed_50 : decode cX6_mixed 50 = .ok (.iload 4, 2) := by decide +kernel
theorem dX6_mixed_52 : decode cX6_mixed 52 = .ok (.ireturn, 1) := by decide +kernel
set_option maxRecDepth 20000 in
theorem ggX6_lastSum_X6_get : GoodIn wsX6_lastSum wsX6_get := goodIn_r _ [6, 1, 7, 8, 9, 10, 11, 12, 13, 14, 15, 16, 17, 18, 19, 20, 21, 22, 23, 24, 25, 26, 27] (by decide +kernel) (by decide +kernel)
set_option maxRecDepth 20000 in
theorem gX6_lastSum_X6_get : GoodIn wsX6_lastSum (wsV RX6 122 RX6 yX6_get wsX6_get) := goodIn_app (goodIn_of _ (by decide +kernel)) ggX6_lastSum_X6_get
theorem dX6_lastSum_0 : decode cX6_lastSum 0 = .ok (.iconst 0, 1) := by decide +kernel
theorem dX6_lastSum_1 : decode cX6_lastSum 1 = .ok (.istore_n 1, 1) := by decide +kernel
theorem dX6_lastSum_2 : decode cX6_lastSum 2 = .ok (.iconst 0, 1) := by decide +kernel
theorem dX6_lastSum_3 : decode cX6_lastSum 3 = .ok (.istore_n 2, 1) := by decide +kernel
theorem dX6_lastSum_4 : decode cX6_lastSum 4 = .ok (.iload_n 2, 1) := by decide +kernel
theorem dX6_lastSum_5 : decode cX6_lastSum 5 = .ok (.aload_n 0, 1) := by decide +kernel
theorem dX6_lastSum_6 : decode cX6_lastSum 6 = .ok (.getfield 9, 3) := by decide +kernel
theorem dX6_lastSum_9 : decode cX6_lastSum 9 = .ok (.iconst 5, 1) := by decide +kernel
theorem dX6_lastSum_10 : decode cX6_lastSum 10 = .ok (.iaload, 1) := by decide +kernel
theorem dX6_lastSum_11 : decode cX6_lastSum 11 = .ok (.if_icmp .ge 18, 3) := by decide +kernel
theorem dX6_lastSum_14 : decode cX6_lastSum 14 = .ok (.iload_n 1, 1) := by decide +kernel
theorem dX6_lastSum_15 : decode cX6_lastSum 15 = .ok (.aload_n 0, 1) := by decide +kernel
theorem dX6_lastSum_16 : decode cX6_lastSum 16 = .ok (.iload_n 2, 1) := by decide +kernel
theorem dX6_lastSum_17 : decode cX6_lastSum 17 = .ok (.iconst 3, 1) := by decide +kernel
theorem dX6_lastSum_18 : decode cX6_lastSum 18 = .ok (.invokevirtual 122, 3) := by decide +kernel
theorem dX6_lastSum_21 : decode cX6_lastSum 21 = .ok (.iadd, 1) := by decide +kernel
theorem dX6_lastSum_22 : decode cX6_lastSum 22 = .ok (.istore_n 1, 1) := by decide +kernel
theorem dX6_lastSum_23 : decode cX6_lastSum 23 = .ok (.iinc 2 1, 3) := by decide +kernel
theorem dX6_lastSum_26 : decode cX6_lastSum 26 = .ok (.goto (-22), 3) := by decide +kernel
theorem dX6_lastSum_29 : decode cX6_lastSum 29 = .ok (.iload_n 1, 1) := by decide +kernel
theorem dX6_lastSum_30 : decode cX6_lastSum 30 = .ok (.ireturn, 1) := by decide +kernel
set_option maxRecDepth 20000 in
theorem ggX6_learnt_X6_levelBy : GoodIn wsX6_learnt wsX6_levelBy := goodIn_r _ [6, 1, 7, 8, 9, 5, 10, 11, 12, 13, 14, 23, 24, 25, 26, 27, 28, 29, 30, 31, 32, 33, 34, 35, 36, 37, 38, 39, 40, 41, 42, 43] (by decide +kernel) (by decide +kernel)
set_option maxRecDepth 20000 in
theorem gX6_learnt_X6_levelBy : GoodIn wsX6_learnt (wsV RX6 141 RX6 yX6_levelBy wsX6_levelBy) := goodIn_app (goodIn_of _ (by decide +kernel)) ggX6_learnt_X6_levelBy
set_option maxRecDepth 20000 in
theorem ggX6_learnt_X6_lastSum : GoodIn wsX6_learnt wsX6_lastSum := goodIn_r _ [18, 1, 19, 20, 21, 5, 22, 23, 24, 25, 26, 27, 28, 29, 30, 31, 32, 33, 34, 35, 36, 37, 38, 39, 40, 41, 42, 43] (by decide +kernel) (by decide +kernel)
set_option maxRecDepth 20000 in
theorem gX6_learnt_X6_lastSum : GoodIn wsX6_learnt (wsV RX6 144 RX6 yX6_lastSum wsX6_lastSum) := goodIn_app (goodIn_of _ (by decide +kernel)) ggX6_learnt_X6_lastSum
set_option maxRecDepth 20000 in
theorem ggX6_learnt_X6_shareOf : GoodIn wsX6_learnt wsX6_shareOf := goodIn_r _ [10, 11, 12, 13, 5, 14, 1, 23, 24, 25, 26, 27, 28, 29, 30, 31, 32, 33, 34, 35, 36, 37, 38, 39, 40, 41, 42, 43] (by decide +kernel) (by decide +kernel)
set_option maxRecDepth 20000 in
theorem gX6_learnt_X6_shareOf : GoodIn wsX6_learnt (wsV RX6 137 RX6 yX6_shareOf wsX6_shareOf) := goodIn_app (goodIn_of _ (by decide +kernel)) ggX6_learnt_X6_shareOf
theorem dX6_learnt_0 : decode cX6_learnt 0 = .ok (.aload_n 0, 1) := by decide +kernel
theorem dX6_learnt_1 : decode cX6_learnt 1 = .ok (.getfield 9, 3) := by decide +kernel
theorem dX6_learnt_4 : decode cX6_learnt 4 = .ok (.bipush 6, 2) := by decide +kernel
theorem dX6_learnt_6 : decode cX6_learnt 6 = .ok (.iaload, 1) := by decide +kernel
theorem dX6_learnt_7 : decode cX6_learnt 7 = .ok (.ifCond .ne 11, 3) := by decide +kernel
theorem dX6_learnt_10 : decode cX6_learnt 10 = .ok (.aload_n 0, 1) := by decide +kernel
theorem dX6_learnt_11 : decode cX6_learnt 11 = .ok (.iload_n 1, 1) := by decide +kernel
theorem dX6_learnt_12 : decode cX6_learnt 12 = .ok (.iload_n 2, 1) := by decide +kernel
theorem dX6_learnt_13 : decode cX6_learnt 13 = .ok (.iload_n 3, 1) := by decide +kernel
theorem dX6_learnt_14 : decode cX6_learnt 14 = .ok (.invokevirtual 141, 3) := by decide +kernel
theorem dX6_learnt_17 : decode cX6_learnt 17 = .ok (.ireturn, 1) := by decide +kernel
theorem dX6_learnt_18 : decode cX6_learnt 18 = .ok (.aload_n 0, 1) := by decide +kernel
theorem dX6_learnt_19 : decode cX6_learnt 19 = .ok (.invokevirtual 144, 3) := by decide +kernel
theorem dX6_learnt_22 : decode cX6_learnt 22 = .ok (.aload_n 0, 1) := by decide +kernel
theorem dX6_learnt_23 : decode cX6_learnt 23 = .ok (.getfield 9, 3) := by decide +kernel
theorem dX6_learnt_26 : decode cX6_learnt 26 = .ok (.iconst 5, 1) := by decide +kernel
theorem dX6_learnt_27 : decode cX6_learnt 27 = .ok (.iaload, 1) := by decide +kernel
theorem dX6_learnt_28 : decode cX6_learnt 28 = .ok (.idiv, 1) := by decide +kernel
theorem dX6_learnt_29 : decode cX6_learnt 29 = .ok (.istore 4, 2) := by decide +kernel
theorem dX6_learnt_31 : decode cX6_learnt 31 = .ok (.iconst 0, 1) := by decide +kernel
theorem dX6_learnt_32 : decode cX6_learnt 32 = .ok (.istore 5, 2) := by decide +kernel
theorem dX6_learnt_34 : decode cX6_learnt 34 = .ok (.iload 5, 2) := by decide +kernel
theorem dX6_learnt_36 : decode cX6_learnt 36 = .ok (.iload_n 1, 1) := by decide +kernel
theorem dX6_learnt_37 : decode cX6_learnt 37 = .ok (.if_icmp .lt 8, 3) := by decide +kernel
theorem dX6_learnt_40 : decode cX6_learnt 40 = .ok (.iload 5, 2) := by decide +kernel
theorem dX6_learnt_42 : decode cX6_learnt 42 = .ok (.ifCond .ne 19, 3) := by decide +kernel
theorem dX6_learnt_45 : decode cX6_learnt 45 = .ok (.aload_n 0, 1) := by decide +kernel
theorem dX6_learnt_46 : decode cX6_learnt 46 = .ok (.iload 4, 2) := by decide +kernel
theorem dX6_learnt_48 : decode cX6_learnt 48 = .ok (.iload_n 2, 1) := by decide +kernel
theorem dX6_learnt_49 : decode cX6_learnt 49 = .ok (.iload_n 3, 1) := by decide +kernel
theorem dX6_learnt_50 : decode cX6_learnt 50 = .ok (.invokevirtual 137, 3) := by decide +kernel
theorem dX6_learnt_53 : decode cX6_learnt 53 = .ok (.istore 4, 2) := by decide +kernel
theorem dX6_learnt_55 : decode cX6_learnt 55 = .ok (.iinc 5 1, 3) := by decide +kernel
theorem dX6_learnt_58 : decode cX6_learnt 58 = .ok (.goto (-24), 3) := by decide +kernel
theorem dX6_learnt_61 : decode cX6_learnt 61 = .ok (.iload 4, 2) := by decide +kernel
theorem dX6_learnt_63 : decode cX6_learnt 63 = .ok (.ireturn, 1) := by decide +kernel
set_option maxRecDepth 20000 in
theorem ggX6_holdsBy_X6_get : GoodIn wsX6_holdsBy wsX6_get := goodIn_r _ [6, 1, 31, 32, 33, 34, 35, 36, 37, 38, 39, 40, 41, 42, 43, 44, 45, 46, 47, 48, 49, 50, 51] (by decide +kernel) (by decide +kernel)
set_option maxRecDepth 20000 in
theorem gX6_holdsBy_X6_get : GoodIn wsX6_holdsBy (wsV RX6 122 RX6 yX6_get wsX6_get) := goodIn_app (goodIn_of _ (by decide +kernel)) ggX6_holdsBy_X6_get
set_option maxRecDepth 20000 in
theorem ggX6_holdsBy_X6_levelBy : GoodIn wsX6_holdsBy wsX6_levelBy := goodIn_r _ [10, 1, 11, 12, 13, 5, 14, 15, 16, 17, 18, 31, 32, 33, 34, 35, 36, 37, 38, 39, 40, 41, 42, 43, 44, 45, 46, 47, 48, 49, 50, 51] (by decide +kernel) (by decide +kernel)
set_option maxRecDepth 20000 in
theorem gX6_holdsBy_X6_levelBy : GoodIn wsX6_holdsBy (wsV RX6 141 RX6 yX6_levelBy wsX6_levelBy) := goodIn_app (goodIn_of _ (by decide +kernel)) ggX6_holdsBy_X6_levelBy
set_option maxRecDepth 20000 in
theorem ggX6_holdsBy_X6_mixed : GoodIn wsX6_holdsBy wsX6_mixed := goodIn_r _ [22, 1, 11, 12, 13, 5, 14, 15, 16, 17, 18, 31, 32, 33, 34, 35, 36, 37, 38, 39, 40, 41, 42, 43, 44, 45, 46, 47, 48, 49, 50, 51] (by decide +kernel) (by decide +kernel)
set_option maxRecDepth 20000 in
theorem gX6_holdsBy_X6_mixed : GoodIn wsX6_holdsBy (wsV RX6 147 RX6 yX6_mixed wsX6_mixed) := goodIn_app (goodIn_of _ (by decide +kernel)) ggX6_holdsBy_X6_mixed
set_option maxRecDepth 20000 in
theorem ggX6_holdsBy_X6_learnt : GoodIn wsX6_holdsBy wsX6_learnt := goodIn_r _ [26, 1, 7, 8, 9, 5, 10, 11, 12, 13, 14, 15, 16, 17, 18, 27, 28, 29, 30, 2, 3, 4, 6, 31, 32, 33, 34, 35, 36, 37, 38, 39, 40, 41, 42, 43, 44, 45, 46, 47, 48, 49, 50, 51] (by decide +kernel) (by decide +kernel)
set_option maxRecDepth 20000 in
theorem gX6_holdsBy_X6_learnt : GoodIn wsX6_holdsBy (wsV RX6 150 RX6 yX6_learnt wsX6_learnt) := goodIn_app (goodIn_of _ (by decide +kernel)) ggX6_holdsBy_X6_learnt
theorem dX6_holdsBy_0 : decode cX6_holdsBy 0 = .ok (.aload_n 0, 1) := by decide +kernel
theorem dX6_holdsBy_1 : decode cX6_holdsBy 1 = .ok (.iload_n 1, 1) := by decide +kernel
theorem dX6_holdsBy_2 : decode cX6_holdsBy 2 = .ok (.iconst 1, 1) := by decide +kernel
theorem dX6_holdsBy_3 : decode cX6_holdsBy 3 = .ok (.invokevirtual 122, 3) := by decide +kernel
theorem dX6_holdsBy_6 : decode cX6_holdsBy 6 = .ok (.istore 4, 2) := by decide +kernel
theorem dX6_holdsBy_8 : decode cX6_holdsBy 8 = .ok (.aload_n 0, 1) := by decide +kernel
theorem dX6_holdsBy_9 : decode cX6_holdsBy 9 = .ok (.iload_n 1, 1) := by decide +kernel
theorem dX6_holdsBy_10 : decode cX6_holdsBy 10 = .ok (.iconst 0, 1) := by decide +kernel
theorem dX6_holdsBy_11 : decode cX6_holdsBy 11 = .ok (.invokevirtual 122, 3) := by decide +kernel
theorem dX6_holdsBy_14 : decode cX6_holdsBy 14 = .ok (.tableswitch 84 2 6 #[34, 43, 52, 68, 75], 34) := by decide +kernel
theorem dX6_holdsBy_48 : decode cX6_holdsBy 48 = .ok (.aload_n 0, 1) := by decide +kernel
theorem dX6_holdsBy_49 : decode cX6_holdsBy 49 = .ok (.iload 4, 2) := by decide +kernel
theorem dX6_holdsBy_51 : decode cX6_holdsBy 51 = .ok (.iload_n 2, 1) := by decide +kernel
theorem dX6_holdsBy_52 : decode cX6_holdsBy 52 = .ok (.iload_n 3, 1) := by decide +kernel
theorem dX6_holdsBy_53 : decode cX6_holdsBy 53 = .ok (.invokevirtual 141, 3) := by decide +kernel
theorem dX6_holdsBy_56 : decode cX6_holdsBy 56 = .ok (.ireturn, 1) := by decide +kernel
theorem dX6_holdsBy_57 : decode cX6_holdsBy 57 = .ok (.aload_n 0, 1) := by decide +kernel
theorem dX6_holdsBy_58 : decode cX6_holdsBy 58 = .ok (.iload 4, 2) := by decide +kernel
theorem dX6_holdsBy_60 : decode cX6_holdsBy 60 = .ok (.iload_n 2, 1) := by decide +kernel
theorem dX6_holdsBy_61 : decode cX6_holdsBy 61 = .ok (.iload_n 3, 1) := by decide +kernel
theorem dX6_holdsBy_62 : decode cX6_holdsBy 62 = .ok (.invokevirtual 147, 3) := by decide +kernel
theorem dX6_holdsBy_65 : decode cX6_holdsBy 65 = .ok (.ireturn, 1) := by decide +kernel
theorem dX6_holdsBy_66 : decode cX6_holdsBy 66 = .ok (.iload_n 2, 1) := by decide +kernel
theorem dX6_holdsBy_67 : decode cX6_holdsBy 67 = .ok (.iload_n 3, 1) := by decide +kernel
theorem dX6_holdsBy_68 : decode cX6_holdsBy 68 = .ok (.if_icmp .gt 7, 3) := by decide +kernel
theorem dX6_holdsBy_71 : decode cX6_holdsBy 71 = .ok (.iconst 0, 1) := by decide +kernel
theorem dX6_holdsBy_72 : decode cX6_holdsBy 72 = .ok (.goto 9, 3) := by decide +kernel
theorem dX6_holdsBy_75 : decode cX6_holdsBy 75 = .ok (.aload_n 0, 1) := by decide +kernel
theorem dX6_holdsBy_76 : decode cX6_holdsBy 76 = .ok (.getfield 9, 3) := by decide +kernel
theorem dX6_holdsBy_79 : decode cX6_holdsBy 79 = .ok (.iconst 2, 1) := by decide +kernel
theorem dX6_holdsBy_80 : decode cX6_holdsBy 80 = .ok (.iaload, 1) := by decide +kernel
theorem dX6_holdsBy_81 : decode cX6_holdsBy 81 = .ok (.ireturn, 1) := by decide +kernel
theorem dX6_holdsBy_82 : decode cX6_holdsBy 82 = .ok (.aload_n 0, 1) := by decide +kernel
theorem dX6_holdsBy_83 : decode cX6_holdsBy 83 = .ok (.getfield 9, 3) := by decide +kernel
theorem dX6_holdsBy_86 : decode cX6_holdsBy 86 = .ok (.iconst 2, 1) := by decide +kernel
theorem dX6_holdsBy_87 : decode cX6_holdsBy 87 = .ok (.iaload, 1) := by decide +kernel
theorem dX6_holdsBy_88 : decode cX6_holdsBy 88 = .ok (.ireturn, 1) := by decide +kernel
theorem dX6_holdsBy_89 : decode cX6_holdsBy 89 = .ok (.aload_n 0, 1) := by decide +kernel
theorem dX6_holdsBy_90 : decode cX6_holdsBy 90 = .ok (.iload 4, 2) := by decide +kernel
theorem dX6_holdsBy_92 : decode cX6_holdsBy 92 = .ok (.iload_n 2, 1) := by decide +kernel
theorem dX6_holdsBy_93 : decode cX6_holdsBy 93 = .ok (.iload_n 3, 1) := by decide +kernel
theorem dX6_holdsBy_94 : decode cX6_holdsBy 94 = .ok (.invokevirtual 150, 3) := by decide +kernel
theorem dX6_holdsBy_97 : decode cX6_holdsBy 97 = .ok (.ireturn, 1) := by decide +kernel
theorem dX6_holdsBy_98 : decode cX6_holdsBy 98 = .ok (.aload_n 0, 1) := by decide +kernel
theorem dX6_holdsBy_99 : decode cX6_holdsBy 99 = .ok (.getfield 9, 3) := by decide +kernel
theorem dX6_holdsBy_102 : decode cX6_holdsBy 102 = .ok (.iconst 2, 1) := by decide +kernel
theorem dX6_holdsBy_103 : decode cX6_holdsBy 103 = .ok (.iaload, 1) := by decide +kernel
theorem dX6_holdsBy_104 : decode cX6_holdsBy 104 = .ok (.iconst 2, 1) := by decide +kernel
theorem dX6_holdsBy_105 : decode cX6_holdsBy 105 = .ok (.idiv, 1) := by decide +kernel
theorem dX6_holdsBy_106 : decode cX6_holdsBy 106 = .ok (.ireturn, 1) := by decide +kernel
set_option maxRecDepth 20000 in
theorem ggX6_isDrawn_X6_get : GoodIn wsX6_isDrawn wsX6_get := goodIn_r _ [5, 6, 7, 8, 9, 10, 11, 12, 13, 14, 15, 16, 17, 18, 19, 20, 21, 22, 23, 24, 25, 26, 27] (by decide +kernel) (by decide +kernel)
set_option maxRecDepth 20000 in
theorem gX6_isDrawn_X6_get : GoodIn wsX6_isDrawn (wsV RX6 122 RX6 yX6_get wsX6_get) := goodIn_app (goodIn_of _ (by decide +kernel)) ggX6_isDrawn_X6_get
theorem dX6_isDrawn_0 : decode cX6_isDrawn 0 = .ok (.aload_n 0, 1) := by decide +kernel
theorem dX6_isDrawn_1 : decode cX6_isDrawn 1 = .ok (.iload_n 1, 1) := by decide +kernel
theorem dX6_isDrawn_2 : decode cX6_isDrawn 2 = .ok (.iconst 0, 1) := by decide +kernel
theorem dX6_isDrawn_3 : decode cX6_isDrawn 3 = .ok (.invokevirtual 122, 3) := by decide +kernel
theorem dX6_isDrawn_6 : decode cX6_isDrawn 6 = .ok (.iconst 1, 1) := by decide +kernel
theorem dX6_isDrawn_7 : decode cX6_isDrawn 7 = .ok (.if_icmp .eq 14, 3) := by decide +kernel
theorem dX6_isDrawn_10 : decode cX6_isDrawn 10 = .ok (.aload_n 0, 1) := by decide +kernel
theorem dX6_isDrawn_11 : decode cX6_isDrawn 11 = .ok (.iload_n 1, 1) := by decide +kernel
theorem dX6_isDrawn_12 : decode cX6_isDrawn 12 = .ok (.iconst 0, 1) := by decide +kernel
theorem dX6_isDrawn_13 : decode cX6_isDrawn 13 = .ok (.invokevirtual 122, 3) := by decide +kernel
theorem dX6_isDrawn_16 : decode cX6_isDrawn 16 = .ok (.bipush 7, 2) := by decide +kernel
theorem dX6_isDrawn_18 : decode cX6_isDrawn 18 = .ok (.if_icmp .ne 7, 3) := by decide +kernel
theorem dX6_isDrawn_21 : decode cX6_isDrawn 21 = .ok (.iconst 1, 1) := by decide +kernel
theorem dX6_isDrawn_22 : decode cX6_isDrawn 22 = .ok (.goto 4, 3) := by decide +kernel
theorem dX6_isDrawn_25 : decode cX6_isDrawn 25 = .ok (.iconst 0, 1) := by decide +kernel
theorem dX6_isDrawn_26 : decode cX6_isDrawn 26 = .ok (.ireturn, 1) := by decide +kernel
set_option maxRecDepth 20000 in
theorem ggX6_holds_X6_isPerson : GoodIn wsX6_holds wsX6_isPerson := goodIn_r _ [6, 1, 7, 8, 5, 9, 46, 47, 48, 49, 50, 51, 52, 53, 54, 55, 56, 57, 58, 59, 60, 61, 62, 63, 64, 65, 66] (by decide +kernel) (by decide +kernel)
set_option maxRecDepth 20000 in
theorem gX6_holds_X6_isPerson : GoodIn wsX6_holds (wsV RX6 117 RX6 yX6_isPerson wsX6_isPerson) := goodIn_app (goodIn_of _ (by decide +kernel)) ggX6_holds_X6_isPerson
set_option maxRecDepth 20000 in
theorem ggX6_holds_X6_isDrawn : GoodIn wsX6_holds wsX6_isDrawn := goodIn_r _ [13, 14, 15, 16, 5, 17, 1, 46, 47, 48, 49, 50, 51, 52, 53, 54, 55, 56, 57, 58, 59, 60, 61, 62, 63, 64, 65, 66] (by decide +kernel) (by decide +kernel)
set_option maxRecDepth 20000 in
theorem gX6_holds_X6_isDrawn : GoodIn wsX6_holds (wsV RX6 153 RX6 yX6_isDrawn wsX6_isDrawn) := goodIn_app (goodIn_of _ (by decide +kernel)) ggX6_holds_X6_isDrawn
set_option maxRecDepth 20000 in
theorem ggX6_holds_X6_holdsBy : GoodIn wsX6_holds wsX6_holdsBy := goodIn_r _ [21, 1, 14, 15, 16, 5, 17, 22, 23, 24, 25, 26, 27, 28, 29, 30, 31, 32, 33, 34, 35, 36, 37, 38, 39, 40, 41, 42, 43, 44, 45, 46, 47, 48, 49, 50, 51, 52, 53, 54, 55, 56, 57, 58, 59, 60, 61, 62, 63, 64, 65, 66] (by decide +kernel) (by decide +kernel)
set_option maxRecDepth 20000 in
theorem gX6_holds_X6_holdsBy : GoodIn wsX6_holds (wsV RX6 156 RX6 yX6_holdsBy wsX6_holdsBy) := goodIn_app (goodIn_of _ (by decide +kernel)) ggX6_holds_X6_holdsBy
theorem dX6_holds_0 : decode cX6_holds 0 = .ok (.aload_n 0, 1) := by decide +kernel
theorem dX6_holds_1 : decode cX6_holds 1 = .ok (.iload_n 1, 1) := by decide +kernel
theorem dX6_holds_2 : decode cX6_holds 2 = .ok (.invokevirtual 117, 3) := by decide +kernel
theorem dX6_holds_5 : decode cX6_holds 5 = .ok (.ifCond .ne 7, 3) := by decide +kernel
theorem dX6_holds_8 : decode cX6_holds 8 = .ok (.iconst (-1), 1) := by decide +kernel
theorem dX6_holds_9 : decode cX6_holds 9 = .ok (.goto 33, 3) := by decide +kernel
theorem dX6_holds_12 : decode cX6_holds 12 = .ok (.aload_n 0, 1) := by decide +kernel
theorem dX6_holds_13 : decode cX6_holds 13 = .ok (.iload_n 1, 1) := by decide +kernel
theorem dX6_holds_14 : decode cX6_holds 14 = .ok (.invokevirtual 153, 3) := by decide +kernel
theorem dX6_holds_17 : decode cX6_holds 17 = .ok (.ifCond .eq 8, 3) := by decide +kernel
theorem dX6_holds_20 : decode cX6_holds 20 = .ok (.bipush (-3), 2) := by decide +kernel
theorem dX6_holds_22 : decode cX6_holds 22 = .ok (.goto 20, 3) := by decide +kernel
theorem dX6_holds_25 : decode cX6_holds 25 = .ok (.aload_n 0, 1) := by decide +kernel
theorem dX6_holds_26 : decode cX6_holds 26 = .ok (.iload_n 1, 1) := by decide +kernel
theorem dX6_holds_27 : decode cX6_holds 27 = .ok (.aload_n 0, 1) := by decide +kernel
theorem dX6_holds_28 : decode cX6_holds 28 = .ok (.getfield 9, 3) := by decide +kernel
theorem dX6_holds_31 : decode cX6_holds 31 = .ok (.iconst 0, 1) := by decide +kernel
theorem dX6_holds_32 : decode cX6_holds 32 = .ok (.iaload, 1) := by decide +kernel
theorem dX6_holds_33 : decode cX6_holds 33 = .ok (.aload_n 0, 1) := by decide +kernel
theorem dX6_holds_34 : decode cX6_holds 34 = .ok (.getfield 9, 3) := by decide +kernel
theorem dX6_holds_37 : decode cX6_holds 37 = .ok (.iconst 1, 1) := by decide +kernel
theorem dX6_holds_38 : decode cX6_holds 38 = .ok (.iaload, 1) := by decide +kernel
theorem dX6_holds_39 : decode cX6_holds 39 = .ok (.invokevirtual 156, 3) := by decide +kernel
theorem dX6_holds_42 : decode cX6_holds 42 = .ok (.ireturn, 1) := by decide +kernel
theorem dX6_draw_0 : decode cX6_draw 0 = .ok (.aload_n 0, 1) := by decide +kernel
theorem dX6_draw_1 : decode cX6_draw 1 = .ok (.getfield 9, 3) := by decide +kernel
theorem dX6_draw_4 : decode cX6_draw 4 = .ok (.iconst 4, 1) := by decide +kernel
theorem dX6_draw_5 : decode cX6_draw 5 = .ok (.aload_n 0, 1) := by decide +kernel
theorem dX6_draw_6 : decode cX6_draw 6 = .ok (.getfield 9, 3) := by decide +kernel
theorem dX6_draw_9 : decode cX6_draw 9 = .ok (.iconst 4, 1) := by decide +kernel
theorem dX6_draw_10 : decode cX6_draw 10 = .ok (.iaload, 1) := by decide +kernel
theorem dX6_draw_11 : decode cX6_draw 11 = .ok (.ldc 159, 2) := by decide +kernel
theorem dX6_draw_13 : decode cX6_draw 13 = .ok (.imul, 1) := by decide +kernel
theorem dX6_draw_14 : decode cX6_draw 14 = .ok (.sipush 12345, 3) := by decide +kernel
theorem dX6_draw_17 : decode cX6_draw 17 = .ok (.iadd, 1) := by decide +kernel
theorem dX6_draw_18 : decode cX6_draw 18 = .ok (.iastore, 1) := by decide +kernel
theorem dX6_draw_19 : decode cX6_draw 19 = .ok (.aload_n 0, 1) := by decide +kernel
theorem dX6_draw_20 : decode cX6_draw 20 = .ok (.getfield 9, 3) := by decide +kernel
theorem dX6_draw_23 : decode cX6_draw 23 = .ok (.iconst 4, 1) := by decide +kernel
theorem dX6_draw_24 : decode cX6_draw 24 = .ok (.iaload, 1) := by decide +kernel
theorem dX6_draw_25 : decode cX6_draw 25 = .ok (.ldc 160, 2) := by decide +kernel
theorem dX6_draw_27 : decode cX6_draw 27 = .ok (.iand, 1) := by decide +kernel
theorem dX6_draw_28 : decode cX6_draw 28 = .ok (.ldc 161, 2) := by decide +kernel
theorem dX6_draw_30 : decode cX6_draw 30 = .ok (.idiv, 1) := by decide +kernel
theorem dX6_draw_31 : decode cX6_draw 31 = .ok (.iload_n 1, 1) := by decide +kernel
theorem dX6_draw_32 : decode cX6_draw 32 = .ok (.irem, 1) := by decide +kernel
theorem dX6_draw_33 : decode cX6_draw 33 = .ok (.ireturn, 1) := by decide +kernel
set_option maxRecDepth 20000 in
theorem ggX6_cardOf_X6_holdsBy : GoodIn wsX6_cardOf wsX6_holdsBy := goodIn_r _ [6, 1, 7, 8, 9, 5, 10, 11, 12, 13, 14, 15, 16, 17, 18, 19, 20, 21, 22, 23, 24, 25, 26, 27, 28, 29, 30, 31, 32, 33, 34, 46, 47, 48, 49, 50, 51, 52, 53, 54, 55, 56, 57, 58, 59, 60, 61, 62, 63, 64, 65, 66] (by decide +kernel) (by decide +kernel)
set_option maxRecDepth 20000 in
theorem gX6_cardOf_X6_holdsBy : GoodIn wsX6_cardOf (wsV RX6 156 RX6 yX6_holdsBy wsX6_holdsBy) := goodIn_app (goodIn_of _ (by decide +kernel)) ggX6_cardOf_X6_holdsBy
set_option maxRecDepth 20000 in
theorem ggX6_cardOf_X6_isDrawn : GoodIn wsX6_cardOf wsX6_isDrawn := goodIn_r _ [38, 7, 8, 9, 5, 10, 1, 46, 47, 48, 49, 50, 51, 52, 53, 54, 55, 56, 57, 58, 59, 60, 61, 62, 63, 64, 65, 66] (by decide +kernel) (by decide +kernel)
set_option maxRecDepth 20000 in
theorem gX6_cardOf_X6_isDrawn : GoodIn wsX6_cardOf (wsV RX6 153 RX6 yX6_isDrawn wsX6_isDrawn) := goodIn_app (goodIn_of _ (by decide +kernel)) ggX6_cardOf_X6_isDrawn
set_option maxRecDepth 20000 in
theorem ggX6_cardOf_X6_draw : GoodIn wsX6_cardOf wsX6_draw := goodIn_r _ [42, 1, 43, 44, 45, 46, 47, 48, 49, 50, 51, 52, 53, 54, 55, 56, 57, 58, 59, 60, 61, 62, 63, 64, 65, 66] (by decide +kernel) (by decide +kernel)
set_option maxRecDepth 20000 in
theorem gX6_cardOf_X6_draw : GoodIn wsX6_cardOf (wsV RX6 162 RX6 yX6_draw wsX6_draw) := goodIn_app (goodIn_of _ (by decide +kernel)) ggX6_cardOf_X6_draw
set_option maxRecDepth 20000 in
theorem ggX6_cardOf_X6_get : GoodIn wsX6_cardOf wsX6_get := goodIn_r _ [10, 1, 46, 47, 48, 49, 50, 51, 52, 53, 54, 55, 56, 57, 58, 59, 60, 61, 62, 63, 64, 65, 66] (by decide +kernel) (by decide +kernel)
set_option maxRecDepth 20000 in
theorem gX6_cardOf_X6_get : GoodIn wsX6_cardOf (wsV RX6 122 RX6 yX6_get wsX6_get) := goodIn_app (goodIn_of _ (by decide +kernel)) ggX6_cardOf_X6_get
set_option maxRecDepth 20000 in
theorem ggX6_cardOf_X6_held : GoodIn wsX6_cardOf wsX6_held := goodIn_r _ [22, 1, 46, 47, 48, 49, 50, 51, 52, 53, 54, 55, 56, 57, 58, 59, 60, 61, 62, 63, 64, 65, 66] (by decide +kernel) (by decide +kernel)
set_option maxRecDepth 20000 in
theorem gX6_cardOf_X6_held : GoodIn wsX6_cardOf (wsV RX6 133 RX6 yX6_held wsX6_held) := goodIn_app (goodIn_of _ (by decide +kernel)) ggX6_cardOf_X6_held
theorem dX6_cardOf_0 : decode cX6_cardOf 0 = .ok (.aload_n 0, 1) := by decide +kernel
theorem dX6_cardOf_1 : decode cX6_cardOf 1 = .ok (.iload_n 1, 1) := by decide +kernel
theorem dX6_cardOf_2 : decode cX6_cardOf 2 = .ok (.aload_n 0, 1) := by decide +kernel
theorem dX6_cardOf_3 : decode cX6_cardOf 3 = .ok (.getfield 9, 3) := by decide +kernel
theorem dX6_cardOf_6 : decode cX6_cardOf 6 = .ok (.iconst 0, 1) := by decide +kernel
theorem dX6_cardOf_7 : decode cX6_cardOf 7 = .ok (.iaload, 1) := by decide +kernel
theorem dX6_cardOf_8 : decode cX6_cardOf 8 = .ok (.aload_n 0, 1) := by decide +kernel
theorem dX6_cardOf_9 : decode cX6_cardOf 9 = .ok (.getfield 9, 3) := by decide +kernel
theorem dX6_cardOf_12 : decode cX6_cardOf 12 = .ok (.iconst 1, 1) := by decide +kernel
theorem dX6_cardOf_13 : decode cX6_cardOf 13 = .ok (.iaload, 1) := by decide +kernel
theorem dX6_cardOf_14 : decode cX6_cardOf 14 = .ok (.invokevirtual 156, 3) := by decide +kernel
theorem dX6_cardOf_17 : decode cX6_cardOf 17 = .ok (.istore_n 2, 1) := by decide +kernel
theorem dX6_cardOf_18 : decode cX6_cardOf 18 = .ok (.aload_n 0, 1) := by decide +kernel
theorem dX6_cardOf_19 : decode cX6_cardOf 19 = .ok (.iload_n 1, 1) := by decide +kernel
theorem dX6_cardOf_20 : decode cX6_cardOf 20 = .ok (.invokevirtual 153, 3) := by decide +kernel
theorem dX6_cardOf_23 : decode cX6_cardOf 23 = .ok (.ifCond .eq 36, 3) := by decide +kernel
theorem dX6_cardOf_26 : decode cX6_cardOf 26 = .ok (.aload_n 0, 1) := by decide +kernel
theorem dX6_cardOf_27 : decode cX6_cardOf 27 = .ok (.aload_n 0, 1) := by decide +kernel
theorem dX6_cardOf_28 : decode cX6_cardOf 28 = .ok (.getfield 9, 3) := by decide +kernel
theorem dX6_cardOf_31 : decode cX6_cardOf 31 = .ok (.iconst 2, 1) := by decide +kernel
theorem dX6_cardOf_32 : decode cX6_cardOf 32 = .ok (.iaload, 1) := by decide +kernel
theorem dX6_cardOf_33 : decode cX6_cardOf 33 = .ok (.iconst 1, 1) := by decide +kernel
theorem dX6_cardOf_34 : decode cX6_cardOf 34 = .ok (.iadd, 1) := by decide +kernel
theorem dX6_cardOf_35 : decode cX6_cardOf 35 = .ok (.invokevirtual 162, 3) := by decide +kernel
theorem dX6_cardOf_38 : decode cX6_cardOf 38 = .ok (.istore_n 3, 1) := by decide +kernel
theorem dX6_cardOf_39 : decode cX6_cardOf 39 = .ok (.aload_n 0, 1) := by decide +kernel
theorem dX6_cardOf_40 : decode cX6_cardOf 40 = .ok (.iload_n 1, 1) := by decide +kernel
theorem dX6_cardOf_41 : decode cX6_cardOf 41 = .ok (.iconst 0, 1) := by decide +kernel
theorem dX6_cardOf_42 : decode cX6_cardOf 42 = .ok (.invokevirtual 122, 3) := by decide +kernel
theorem dX6_cardOf_45 : decode cX6_cardOf 45 = .ok (.iconst 1, 1) := by decide +kernel
theorem dX6_cardOf_46 : decode cX6_cardOf 46 = .ok (.if_icmp .ne 7, 3) := by decide +kernel
theorem dX6_cardOf_49 : decode cX6_cardOf 49 = .ok (.iload_n 3, 1) := by decide +kernel
theorem dX6_cardOf_50 : decode cX6_cardOf 50 = .ok (.goto 8, 3) := by decide +kernel
theorem dX6_cardOf_53 : decode cX6_cardOf 53 = .ok (.iload_n 3, 1) := by decide +kernel
theorem dX6_cardOf_54 : decode cX6_cardOf 54 = .ok (.iconst 2, 1) := by decide +kernel
theorem dX6_cardOf_55 : decode cX6_cardOf 55 = .ok (.idiv, 1) := by decide +kernel
theorem dX6_cardOf_56 : decode cX6_cardOf 56 = .ok (.iload_n 2, 1) := by decide +kernel
theorem dX6_cardOf_57 : decode cX6_cardOf 57 = .ok (.iadd, 1) := by decide +kernel
theorem dX6_cardOf_58 : decode cX6_cardOf 58 = .ok (.istore_n 2, 1) := by decide +kernel
theorem dX6_cardOf_59 : decode cX6_cardOf 59 = .ok (.aload_n 0, 1) := by decide +kernel
theorem dX6_cardOf_60 : decode cX6_cardOf 60 = .ok (.iload_n 1, 1) := by decide +kernel
theorem dX6_cardOf_61 : decode cX6_cardOf 61 = .ok (.iconst 2, 1) := by decide +kernel
theorem dX6_cardOf_62 : decode cX6_cardOf 62 = .ok (.invokevirtual 122, 3) := by decide +kernel
theorem dX6_cardOf_65 : decode cX6_cardOf 65 = .ok (.istore_n 3, 1) := by decide +kernel
theorem dX6_cardOf_66 : decode cX6_cardOf 66 = .ok (.iload_n 3, 1) := by decide +kernel
theorem dX6_cardOf_67 : decode cX6_cardOf 67 = .ok (.ifCond .ne 11, 3) := by decide +kernel
theorem dX6_cardOf_70 : decode cX6_cardOf 70 = .ok (.aload_n 0, 1) := by decide +kernel
theorem dX6_cardOf_71 : decode cX6_cardOf 71 = .ok (.iload_n 2, 1) := by decide +kernel
theorem dX6_cardOf_72 : decode cX6_cardOf 72 = .ok (.invokevirtual 133, 3) := by decide +kernel
theorem dX6_cardOf_75 : decode cX6_cardOf 75 = .ok (.goto 20, 3) := by decide +kernel
theorem dX6_cardOf_78 : decode cX6_cardOf 78 = .ok (.aload_n 0, 1) := by decide +kernel
theorem dX6_cardOf_79 : decode cX6_cardOf 79 = .ok (.iload_n 2, 1) := by decide +kernel
theorem dX6_cardOf_80 : decode cX6_cardOf 80 = .ok (.aload_n 0, 1) := by decide +kernel
theorem dX6_cardOf_81 : decode cX6_cardOf 81 = .ok (.iconst 2, 1) := by decide +kernel
theorem dX6_cardOf_82 : decode cX6_cardOf 82 = .ok (.iload_n 3, 1) := by decide +kernel
theorem dX6_cardOf_83 : decode cX6_cardOf 83 = .ok (.imul, 1) := by decide +kernel
theorem dX6_cardOf_84 : decode cX6_cardOf 84 = .ok (.iconst 1, 1) := by decide +kernel
theorem dX6_cardOf_85 : decode cX6_cardOf 85 = .ok (.iadd, 1) := by decide +kernel
theorem dX6_cardOf_86 : decode cX6_cardOf 86 = .ok (.invokevirtual 162, 3) := by decide +kernel
theorem dX6_cardOf_89 : decode cX6_cardOf 89 = .ok (.iadd, 1) := by decide +kernel
theorem dX6_cardOf_90 : decode cX6_cardOf 90 = .ok (.iload_n 3, 1) := by decide +kernel
theorem dX6_cardOf_91 : decode cX6_cardOf 91 = .ok (.isub, 1) := by decide +kernel
theorem dX6_cardOf_92 : decode cX6_cardOf 92 = .ok (.invokevirtual 133, 3) := by decide +kernel
theorem dX6_cardOf_95 : decode cX6_cardOf 95 = .ok (.ireturn, 1) := by decide +kernel
set_option maxRecDepth 20000 in
theorem ggX6_goesRound_X6_cardOf : GoodIn wsX6_goesRound wsX6_cardOf := goodIn_r _ [7, 1, 8, 9, 10, 6, 11, 12, 13, 14, 15, 16, 17, 18, 19, 20, 21, 22, 23, 24, 25, 26, 27, 28, 29, 30, 31, 32, 33, 34, 35, 36, 37, 38, 39, 40, 41, 42, 43, 44, 45, 46, 47, 48, 49, 50, 51, 52, 53, 54, 55, 56, 57, 58, 59, 60, 61, 62, 63, 64, 65, 66, 67, 68, 69, 70, 71] (by decide +kernel) (by decide +kernel)
set_option maxRecDepth 20000 in
theorem gX6_goesRound_X6_cardOf : GoodIn wsX6_goesRound (wsV RX6 165 RX6 yX6_cardOf wsX6_cardOf) := goodIn_app (goodIn_of _ (by decide +kernel)) ggX6_goesRound_X6_cardOf
theorem dX6_goesRound_0 : decode cX6_goesRound 0 = .ok (.iconst 0, 1) := by decide +kernel
theorem dX6_goesRound_1 : decode cX6_goesRound 1 = .ok (.istore_n 1, 1) := by decide +kernel
theorem dX6_goesRound_2 : decode cX6_goesRound 2 = .ok (.iload_n 1, 1) := by decide +kernel
theorem dX6_goesRound_3 : decode cX6_goesRound 3 = .ok (.aload_n 0, 1) := by decide +kernel
theorem dX6_goesRound_4 : decode cX6_goesRound 4 = .ok (.getfield 9, 3) := by decide +kernel
theorem dX6_goesRound_7 : decode cX6_goesRound 7 = .ok (.iconst 5, 1) := by decide +kernel
theorem dX6_goesRound_8 : decode cX6_goesRound 8 = .ok (.iaload, 1) := by decide +kernel
theorem dX6_goesRound_9 : decode cX6_goesRound 9 = .ok (.if_icmp .ge 20, 3) := by decide +kernel
theorem dX6_goesRound_12 : decode cX6_goesRound 12 = .ok (.aload_n 0, 1) := by decide +kernel
theorem dX6_goesRound_13 : decode cX6_goesRound 13 = .ok (.getfield 43, 3) := by decide +kernel
theorem dX6_goesRound_16 : decode cX6_goesRound 16 = .ok (.iload_n 1, 1) := by decide +kernel
theorem dX6_goesRound_17 : decode cX6_goesRound 17 = .ok (.aload_n 0, 1) := by decide +kernel
theorem dX6_goesRound_18 : decode cX6_goesRound 18 = .ok (.iload_n 1, 1) := by decide +kernel
theorem dX6_goesRound_19 : decode cX6_goesRound 19 = .ok (.invokevirtual 165, 3) := by decide +kernel
theorem dX6_goesRound_22 : decode cX6_goesRound 22 = .ok (.iastore, 1) := by decide +kernel
theorem dX6_goesRound_23 : decode cX6_goesRound 23 = .ok (.iinc 1 1, 3) := by decide +kernel
theorem dX6_goesRound_26 : decode cX6_goesRound 26 = .ok (.goto (-24), 3) := by decide +kernel
theorem dX6_goesRound_29 : decode cX6_goesRound 29 = .ok (.iconst 0, 1) := by decide +kernel
theorem dX6_goesRound_30 : decode cX6_goesRound 30 = .ok (.istore_n 1, 1) := by decide +kernel
theorem dX6_goesRound_31 : decode cX6_goesRound 31 = .ok (.iload_n 1, 1) := by decide +kernel
theorem dX6_goesRound_32 : decode cX6_goesRound 32 = .ok (.aload_n 0, 1) := by decide +kernel
theorem dX6_goesRound_33 : decode cX6_goesRound 33 = .ok (.getfield 9, 3) := by decide +kernel
theorem dX6_goesRound_36 : decode cX6_goesRound 36 = .ok (.iconst 5, 1) := by decide +kernel
theorem dX6_goesRound_37 : decode cX6_goesRound 37 = .ok (.iaload, 1) := by decide +kernel
theorem dX6_goesRound_38 : decode cX6_goesRound 38 = .ok (.if_icmp .ge 28, 3) := by decide +kernel
theorem dX6_goesRound_41 : decode cX6_goesRound 41 = .ok (.aload_n 0, 1) := by decide +kernel
theorem dX6_goesRound_42 : decode cX6_goesRound 42 = .ok (.getfield 9, 3) := by decide +kernel
theorem dX6_goesRound_45 : decode cX6_goesRound 45 = .ok (.bipush 7, 2) := by decide +kernel
theorem dX6_goesRound_47 : decode cX6_goesRound 47 = .ok (.iconst 4, 1) := by decide +kernel
theorem dX6_goesRound_48 : decode cX6_goesRound 48 = .ok (.iload_n 1, 1) := by decide +kernel
theorem dX6_goesRound_49 : decode cX6_goesRound 49 = .ok (.imul, 1) := by decide +kernel
theorem dX6_goesRound_50 : decode cX6_goesRound 50 = .ok (.iadd, 1) := by decide +kernel
theorem dX6_goesRound_51 : decode cX6_goesRound 51 = .ok (.iconst 3, 1) := by decide +kernel
theorem dX6_goesRound_52 : decode cX6_goesRound 52 = .ok (.iadd, 1) := by decide +kernel
theorem dX6_goesRound_53 : decode cX6_goesRound 53 = .ok (.aload_n 0, 1) := by decide +kernel
theorem dX6_goesRound_54 : decode cX6_goesRound 54 = .ok (.getfield 43, 3) := by decide +kernel
theorem dX6_goesRound_57 : decode cX6_goesRound 57 = .ok (.iload_n 1, 1) := by decide +kernel
theorem dX6_goesRound_58 : decode cX6_goesRound 58 = .ok (.iaload, 1) := by decide +kernel
theorem dX6_goesRound_59 : decode cX6_goesRound 59 = .ok (.iastore, 1) := by decide +kernel
theorem dX6_goesRound_60 : decode cX6_goesRound 60 = .ok (.iinc 1 1, 3) := by decide +kernel
theorem dX6_goesRound_63 : decode cX6_goesRound 63 = .ok (.goto (-32), 3) := by decide +kernel
theorem dX6_goesRound_66 : decode cX6_goesRound 66 = .ok (.aload_n 0, 1) := by decide +kernel
theorem dX6_goesRound_67 : decode cX6_goesRound 67 = .ok (.getfield 9, 3) := by decide +kernel
theorem dX6_goesRound_70 : decode cX6_goesRound 70 = .ok (.bipush 6, 2) := by decide +kernel
theorem dX6_goesRound_72 : decode cX6_goesRound 72 = .ok (.dup2, 1) := by decide +kernel
theorem dX6_goesRound_73 : decode cX6_goesRound 73 = .ok (.iaload, 1) := by decide +kernel
theorem dX6_goesRound_74 : decode cX6_goesRound 74 = .ok (.iconst 1, 1) := by decide +kernel
theorem dX6_goesRound_75 : decode cX6_goesRound 75 = .ok (.iadd, 1) := by decide +kernel
theorem dX6_goesRound_76 : decode cX6_goesRound 76 = .ok (.iastore, 1) := by decide +kernel
theorem dX6_goesRound_77 : decode cX6_goesRound 77 = .ok (.return_, 1) := by decide +kernel
set_option maxRecDepth 20000 in
theorem ggX6_round_X6_goesRound : GoodIn wsX6_round wsX6_goesRound := goodIn_r _ [6, 1, 7, 8, 9, 10, 5, 11, 12, 13, 14, 15, 16, 17, 18, 19, 20, 21, 22, 23, 24, 25, 26, 27, 28, 29, 30, 31, 32, 33, 34, 35, 36, 37, 38, 39, 40, 41, 42, 43, 44, 45, 46, 47, 48, 49, 50, 51, 52, 53, 54, 55, 56, 57, 58, 59, 60, 61, 62, 63, 64, 65, 66, 67, 68, 69, 70, 71, 72, 73, 74, 75] (by decide +kernel) (by decide +kernel)
set_option maxRecDepth 20000 in
theorem gX6_round_X6_goesRound : GoodIn wsX6_round (wsV RX6 168 RX6 yX6_goesRound wsX6_goesRound) := goodIn_app (goodIn_of _ (by decide +kernel)) ggX6_round_X6_goesRound
theorem dX6_round_0 : decode cX6_round 0 = .ok (.aload_n 0, 1) := by decide +kernel
theorem dX6_round_1 : decode cX6_round 1 = .ok (.getfield 9, 3) := by decide +kernel
theorem dX6_round_4 : decode cX6_round 4 = .ok (.bipush 6, 2) := by decide +kernel
theorem dX6_round_6 : decode cX6_round 6 = .ok (.iaload, 1) := by decide +kernel
theorem dX6_round_7 : decode cX6_round 7 = .ok (.bipush 99, 2) := by decide +kernel
theorem dX6_round_9 : decode cX6_round 9 = .ok (.if_icmp .ne 6, 3) := by decide +kernel
theorem dX6_round_12 : decode cX6_round 12 = .ok (.bipush (-2), 2) := by decide +kernel
theorem dX6_round_14 : decode cX6_round 14 = .ok (.ireturn, 1) := by decide +kernel
theorem dX6_round_15 : decode cX6_round 15 = .ok (.aload_n 0, 1) := by decide +kernel
theorem dX6_round_16 : decode cX6_round 16 = .ok (.getfield 9, 3) := by decide +kernel
theorem dX6_round_19 : decode cX6_round 19 = .ok (.iconst 5, 1) := by decide +kernel
theorem dX6_round_20 : decode cX6_round 20 = .ok (.iaload, 1) := by decide +kernel
theorem dX6_round_21 : decode cX6_round 21 = .ok (.ifCond .ne 6, 3) := by decide +kernel
theorem dX6_round_24 : decode cX6_round 24 = .ok (.bipush (-3), 2) := by decide +kernel
theorem dX6_round_26 : decode cX6_round 26 = .ok (.ireturn, 1) := by decide +kernel
theorem dX6_round_27 : decode cX6_round 27 = .ok (.aload_n 0, 1) := by decide +kernel
theorem dX6_round_28 : decode cX6_round 28 = .ok (.invokevirtual 168, 3) := by decide +kernel
theorem dX6_round_31 : decode cX6_round 31 = .ok (.aload_n 0, 1) := by decide +kernel
theorem dX6_round_32 : decode cX6_round 32 = .ok (.getfield 9, 3) := by decide +kernel
theorem dX6_round_35 : decode cX6_round 35 = .ok (.bipush 6, 2) := by decide +kernel
theorem dX6_round_37 : decode cX6_round 37 = .ok (.iaload, 1) := by decide +kernel
theorem dX6_round_38 : decode cX6_round 38 = .ok (.ireturn, 1) := by decide +kernel
theorem dX6_anew_0 : decode cX6_anew 0 = .ok (.aload_n 0, 1) := by decide +kernel
theorem dX6_anew_1 : decode cX6_anew 1 = .ok (.getfield 9, 3) := by decide +kernel
theorem dX6_anew_4 : decode cX6_anew 4 = .ok (.bipush 6, 2) := by decide +kernel
theorem dX6_anew_6 : decode cX6_anew 6 = .ok (.iconst 0, 1) := by decide +kernel
theorem dX6_anew_7 : decode cX6_anew 7 = .ok (.iastore, 1) := by decide +kernel
theorem dX6_anew_8 : decode cX6_anew 8 = .ok (.iconst 0, 1) := by decide +kernel
theorem dX6_anew_9 : decode cX6_anew 9 = .ok (.istore_n 1, 1) := by decide +kernel
theorem dX6_anew_10 : decode cX6_anew 10 = .ok (.iload_n 1, 1) := by decide +kernel
theorem dX6_anew_11 : decode cX6_anew 11 = .ok (.aload_n 0, 1) := by decide +kernel
theorem dX6_anew_12 : decode cX6_anew 12 = .ok (.getfield 9, 3) := by decide +kernel
theorem dX6_anew_15 : decode cX6_anew 15 = .ok (.iconst 5, 1) := by decide +kernel
theorem dX6_anew_16 : decode cX6_anew 16 = .ok (.iaload, 1) := by decide +kernel
theorem dX6_anew_17 : decode cX6_anew 17 = .ok (.if_icmp .ge 23, 3) := by decide +kernel
theorem dX6_anew_20 : decode cX6_anew 20 = .ok (.aload_n 0, 1) := by decide +kernel
theorem dX6_anew_21 : decode cX6_anew 21 = .ok (.getfield 9, 3) := by decide +kernel
theorem dX6_anew_24 : decode cX6_anew 24 = .ok (.bipush 7, 2) := by decide +kernel
theorem dX6_anew_26 : decode cX6_anew 26 = .ok (.iconst 4, 1) := by decide +kernel
theorem dX6_anew_27 : decode cX6_anew 27 = .ok (.iload_n 1, 1) := by decide +kernel
theorem dX6_anew_28 : decode cX6_anew 28 = .ok (.imul, 1) := by decide +kernel
theorem dX6_anew_29 : decode cX6_anew 29 = .ok (.iadd, 1) := by decide +kernel
theorem dX6_anew_30 : decode cX6_anew 30 = .ok (.iconst 3, 1) := by decide +kernel
theorem dX6_anew_31 : decode cX6_anew 31 = .ok (.iadd, 1) := by decide +kernel
theorem dX6_anew_32 : decode cX6_anew 32 = .ok (.iconst (-1), 1) := by decide +kernel
theorem dX6_anew_33 : decode cX6_anew 33 = .ok (.iastore, 1) := by decide +kernel
theorem dX6_anew_34 : decode cX6_anew 34 = .ok (.iinc 1 1, 3) := by decide +kernel
theorem dX6_anew_37 : decode cX6_anew 37 = .ok (.goto (-27), 3) := by decide +kernel
theorem dX6_anew_40 : decode cX6_anew 40 = .ok (.aload_n 0, 1) := by decide +kernel
theorem dX6_anew_41 : decode cX6_anew 41 = .ok (.getfield 9, 3) := by decide +kernel
theorem dX6_anew_44 : decode cX6_anew 44 = .ok (.iconst 5, 1) := by decide +kernel
theorem dX6_anew_45 : decode cX6_anew 45 = .ok (.iaload, 1) := by decide +kernel
theorem dX6_anew_46 : decode cX6_anew 46 = .ok (.ireturn, 1) := by decide +kernel
set_option maxRecDepth 20000 in
theorem ggX6_takesLast_X6_get : GoodIn wsX6_takesLast wsX6_get := goodIn_r _ [8, 1, 9, 10, 11, 12, 13, 14, 15, 16, 17, 18, 19, 20, 21, 22, 23, 24, 25, 26, 27, 28, 29] (by decide +kernel) (by decide +kernel)
set_option maxRecDepth 20000 in
theorem gX6_takesLast_X6_get : GoodIn wsX6_takesLast (wsV RX6 122 RX6 yX6_get wsX6_get) := goodIn_app (goodIn_of _ (by decide +kernel)) ggX6_takesLast_X6_get
theorem dX6_takesLast_0 : decode cX6_takesLast 0 = .ok (.aload_n 0, 1) := by decide +kernel
theorem dX6_takesLast_1 : decode cX6_takesLast 1 = .ok (.aload_n 0, 1) := by decide +kernel
theorem dX6_takesLast_2 : decode cX6_takesLast 2 = .ok (.getfield 9, 3) := by decide +kernel
theorem dX6_takesLast_5 : decode cX6_takesLast 5 = .ok (.iconst 5, 1) := by decide +kernel
theorem dX6_takesLast_6 : decode cX6_takesLast 6 = .ok (.iaload, 1) := by decide +kernel
theorem dX6_takesLast_7 : decode cX6_takesLast 7 = .ok (.putfield 171, 3) := by decide +kernel
theorem dX6_takesLast_10 : decode cX6_takesLast 10 = .ok (.iconst 0, 1) := by decide +kernel
theorem dX6_takesLast_11 : decode cX6_takesLast 11 = .ok (.istore_n 1, 1) := by decide +kernel
theorem dX6_takesLast_12 : decode cX6_takesLast 12 = .ok (.iload_n 1, 1) := by decide +kernel
theorem dX6_takesLast_13 : decode cX6_takesLast 13 = .ok (.aload_n 0, 1) := by decide +kernel
theorem dX6_takesLast_14 : decode cX6_takesLast 14 = .ok (.getfield 9, 3) := by decide +kernel
theorem dX6_takesLast_17 : decode cX6_takesLast 17 = .ok (.iconst 5, 1) := by decide +kernel
theorem dX6_takesLast_18 : decode cX6_takesLast 18 = .ok (.iaload, 1) := by decide +kernel
theorem dX6_takesLast_19 : decode cX6_takesLast 19 = .ok (.if_icmp .ge 21, 3) := by decide +kernel
theorem dX6_takesLast_22 : decode cX6_takesLast 22 = .ok (.aload_n 0, 1) := by decide +kernel
theorem dX6_takesLast_23 : decode cX6_takesLast 23 = .ok (.getfield 46, 3) := by decide +kernel
theorem dX6_takesLast_26 : decode cX6_takesLast 26 = .ok (.iload_n 1, 1) := by decide +kernel
theorem dX6_takesLast_27 : decode cX6_takesLast 27 = .ok (.aload_n 0, 1) := by decide +kernel
theorem dX6_takesLast_28 : decode cX6_takesLast 28 = .ok (.iload_n 1, 1) := by decide +kernel
theorem dX6_takesLast_29 : decode cX6_takesLast 29 = .ok (.iconst 3, 1) := by decide +kernel
theorem dX6_takesLast_30 : decode cX6_takesLast 30 = .ok (.invokevirtual 122, 3) := by decide +kernel
theorem dX6_takesLast_33 : decode cX6_takesLast 33 = .ok (.iastore, 1) := by decide +kernel
theorem dX6_takesLast_34 : decode cX6_takesLast 34 = .ok (.iinc 1 1, 3) := by decide +kernel
theorem dX6_takesLast_37 : decode cX6_takesLast 37 = .ok (.goto (-25), 3) := by decide +kernel
theorem dX6_takesLast_40 : decode cX6_takesLast 40 = .ok (.return_, 1) := by decide +kernel
theorem dX6_sumOf_0 : decode cX6_sumOf 0 = .ok (.iconst 0, 1) := by decide +kernel
theorem dX6_sumOf_1 : decode cX6_sumOf 1 = .ok (.istore_n 1, 1) := by decide +kernel
theorem dX6_sumOf_2 : decode cX6_sumOf 2 = .ok (.iconst 0, 1) := by decide +kernel
theorem dX6_sumOf_3 : decode cX6_sumOf 3 = .ok (.istore_n 2, 1) := by decide +kernel
theorem dX6_sumOf_4 : decode cX6_sumOf 4 = .ok (.iload_n 2, 1) := by decide +kernel
theorem dX6_sumOf_5 : decode cX6_sumOf 5 = .ok (.aload_n 0, 1) := by decide +kernel
theorem dX6_sumOf_6 : decode cX6_sumOf 6 = .ok (.getfield 171, 3) := by decide +kernel
theorem dX6_sumOf_9 : decode cX6_sumOf 9 = .ok (.if_icmp .ge 18, 3) := by decide +kernel
theorem dX6_sumOf_12 : decode cX6_sumOf 12 = .ok (.iload_n 1, 1) := by decide +kernel
theorem dX6_sumOf_13 : decode cX6_sumOf 13 = .ok (.aload_n 0, 1) := by decide +kernel
theorem dX6_sumOf_14 : decode cX6_sumOf 14 = .ok (.getfield 46, 3) := by decide +kernel
theorem dX6_sumOf_17 : decode cX6_sumOf 17 = .ok (.iload_n 2, 1) := by decide +kernel
theorem dX6_sumOf_18 : decode cX6_sumOf 18 = .ok (.iaload, 1) := by decide +kernel
theorem dX6_sumOf_19 : decode cX6_sumOf 19 = .ok (.iadd, 1) := by decide +kernel
theorem dX6_sumOf_20 : decode cX6_sumOf 20 = .ok (.istore_n 1, 1) := by decide +kernel
theorem dX6_sumOf_21 : decode cX6_sumOf 21 = .ok (.iinc 2 1, 3) := by decide +kernel
theorem dX6_sumOf_24 : decode cX6_sumOf 24 = .ok (.goto (-20), 3) := by decide +kernel
theorem dX6_sumOf_27 : decode cX6_sumOf 27 = .ok (.iload_n 1, 1) := by decide +kernel
theorem dX6_sumOf_28 : decode cX6_sumOf 28 = .ok (.ireturn, 1) := by decide +kernel
theorem dX6_amount_0 : decode cX6_amount 0 = .ok (.iload_n 0, 1) := by decide +kernel
theorem dX6_amount_1 : decode cX6_amount 1 = .ok (.ifCond .ge 8, 3) := by decide +kernel
theorem dX6_amount_4 : decode cX6_amount 4 = .ok (.iload_n 0, 1) := by decide +kernel
theorem dX6_amount_5 : decode cX6_amount 5 = .ok (.ineg, 1) := by decide +kernel
theorem dX6_amount_6 : decode cX6_amount 6 = .ok (.goto 4, 3) := by decide +kernel
theorem dX6_amount_9 : decode cX6_amount 9 = .ok (.iload_n 0, 1) := by decide +kernel
theorem dX6_amount_10 : decode cX6_amount 10 = .ok (.ireturn, 1) := by decide +kernel
theorem dX6_farOf_0 : decode cX6_farOf 0 = .ok (.iload_n 1, 1) := by decide +kernel
theorem dX6_farOf_1 : decode cX6_farOf 1 = .ok (.aload_n 0, 1) := by decide +kernel
theorem dX6_farOf_2 : decode cX6_farOf 2 = .ok (.getfield 9, 3) := by decide +kernel
theorem dX6_farOf_5 : decode cX6_farOf 5 = .ok (.iconst 1, 1) := by decide +kernel
theorem dX6_farOf_6 : decode cX6_farOf 6 = .ok (.iaload, 1) := by decide +kernel
theorem dX6_farOf_7 : decode cX6_farOf 7 = .ok (.imul, 1) := by decide +kernel
theorem dX6_farOf_8 : decode cX6_farOf 8 = .ok (.iload_n 3, 1) := by decide +kernel
theorem dX6_farOf_9 : decode cX6_farOf 9 = .ok (.imul, 1) := by decide +kernel
theorem dX6_farOf_10 : decode cX6_farOf 10 = .ok (.aload_n 0, 1) := by decide +kernel
theorem dX6_farOf_11 : decode cX6_farOf 11 = .ok (.getfield 9, 3) := by decide +kernel
theorem dX6_farOf_14 : decode cX6_farOf 14 = .ok (.iconst 0, 1) := by decide +kernel
theorem dX6_farOf_15 : decode cX6_farOf 15 = .ok (.iaload, 1) := by decide +kernel
theorem dX6_farOf_16 : decode cX6_farOf 16 = .ok (.iload_n 2, 1) := by decide +kernel
theorem dX6_farOf_17 : decode cX6_farOf 17 = .ok (.imul, 1) := by decide +kernel
theorem dX6_farOf_18 : decode cX6_farOf 18 = .ok (.isub, 1) := by decide +kernel
theorem dX6_farOf_19 : decode cX6_farOf 19 = .ok (.ireturn, 1) := by decide +kernel
set_option maxRecDepth 20000 in
theorem ggX6_wins_X6_farOf : GoodIn wsX6_wins wsX6_farOf := goodIn_r _ [7, 2, 11, 12, 13, 14, 15, 16, 17, 18, 19, 20, 21, 22, 23, 24, 25, 26, 27, 28, 29, 30, 31] (by decide +kernel) (by decide +kernel)
set_option maxRecDepth 20000 in
theorem gX6_wins_X6_farOf : GoodIn wsX6_wins (wsV RX6 174 RX6 yX6_farOf wsX6_farOf) := goodIn_app (goodIn_of _ (by decide +kernel)) ggX6_wins_X6_farOf
set_option maxRecDepth 20000 in
theorem ggX6_wins_X6_amount : GoodIn wsX6_wins wsX6_amount := goodIn_r _ [10] (by decide +kernel) (by decide +kernel)
set_option maxRecDepth 20000 in
theorem gX6_wins_X6_amount : GoodIn wsX6_wins (va_wsS RX6 177 yX6_amount wsX6_amount) := goodIn_app (goodIn_of _ (by decide +kernel)) ggX6_wins_X6_amount
theorem dX6_wins_0 : decode cX6_wins 0 = .ok (.aload_n 0, 1) := by decide +kernel
theorem dX6_wins_1 : decode cX6_wins 1 = .ok (.iload_n 1, 1) := by decide +kernel
theorem dX6_wins_2 : decode cX6_wins 2 = .ok (.iload_n 2, 1) := by decide +kernel
theorem dX6_wins_3 : decode cX6_wins 3 = .ok (.aload_n 0, 1) := by decide +kernel
theorem dX6_wins_4 : decode cX6_wins 4 = .ok (.getfield 171, 3) := by decide +kernel
theorem dX6_wins_7 : decode cX6_wins 7 = .ok (.invokevirtual 174, 3) := by decide +kernel
theorem dX6_wins_10 : decode cX6_wins 10 = .ok (.istore 4, 2) := by decide +kernel
theorem dX6_wins_12 : decode cX6_wins 12 = .ok (.aload_n 0, 1) := by decide +kernel
theorem dX6_wins_13 : decode cX6_wins 13 = .ok (.getfield 9, 3) := by decide +kernel
theorem dX6_wins_16 : decode cX6_wins 16 = .ok (.iconst 3, 1) := by decide +kernel
theorem dX6_wins_17 : decode cX6_wins 17 = .ok (.iaload, 1) := by decide +kernel
theorem dX6_wins_18 : decode cX6_wins 18 = .ok (.ifCond .ne 20, 3) := by decide +kernel
theorem dX6_wins_21 : decode cX6_wins 21 = .ok (.iload 4, 2) := by decide +kernel
theorem dX6_wins_23 : decode cX6_wins 23 = .ok (.invokestatic 177, 3) := by decide +kernel
theorem dX6_wins_26 : decode cX6_wins 26 = .ok (.iload_n 3, 1) := by decide +kernel
theorem dX6_wins_27 : decode cX6_wins 27 = .ok (.if_icmp .ne 7, 3) := by decide +kernel
theorem dX6_wins_30 : decode cX6_wins 30 = .ok (.iconst 1, 1) := by decide +kernel
theorem dX6_wins_31 : decode cX6_wins 31 = .ok (.goto 22, 3) := by decide +kernel
theorem dX6_wins_34 : decode cX6_wins 34 = .ok (.iconst 0, 1) := by decide +kernel
theorem dX6_wins_35 : decode cX6_wins 35 = .ok (.goto 18, 3) := by decide +kernel
theorem dX6_wins_38 : decode cX6_wins 38 = .ok (.iload 4, 2) := by decide +kernel
theorem dX6_wins_40 : decode cX6_wins 40 = .ok (.ifCond .gt 12, 3) := by decide +kernel
theorem dX6_wins_43 : decode cX6_wins 43 = .ok (.iload_n 1, 1) := by decide +kernel
theorem dX6_wins_44 : decode cX6_wins 44 = .ok (.iload_n 3, 1) := by decide +kernel
theorem dX6_wins_45 : decode cX6_wins 45 = .ok (.if_icmp .ne 7, 3) := by decide +kernel
theorem dX6_wins_48 : decode cX6_wins 48 = .ok (.iconst 1, 1) := by decide +kernel
theorem dX6_wins_49 : decode cX6_wins 49 = .ok (.goto 4, 3) := by decide +kernel
theorem dX6_wins_52 : decode cX6_wins 52 = .ok (.iconst 0, 1) := by decide +kernel
theorem dX6_wins_53 : decode cX6_wins 53 = .ok (.ireturn, 1) := by decide +kernel
set_option maxRecDepth 20000 in
theorem ggX6_bestOf_X6_farOf : GoodIn wsX6_bestOf wsX6_farOf := goodIn_r _ [8, 3, 12, 13, 14, 15, 16, 17, 18, 19, 20, 21, 22, 23, 24, 25, 26, 27, 28, 29, 30, 31, 32] (by decide +kernel) (by decide +kernel)
set_option maxRecDepth 20000 in
theorem gX6_bestOf_X6_farOf : GoodIn wsX6_bestOf (wsV RX6 174 RX6 yX6_farOf wsX6_farOf) := goodIn_app (goodIn_of _ (by decide +kernel)) ggX6_bestOf_X6_farOf
set_option maxRecDepth 20000 in
theorem ggX6_bestOf_X6_amount : GoodIn wsX6_bestOf wsX6_amount := goodIn_r _ [11] (by decide +kernel) (by decide +kernel)
set_option maxRecDepth 20000 in
theorem gX6_bestOf_X6_amount : GoodIn wsX6_bestOf (va_wsS RX6 177 yX6_amount wsX6_amount) := goodIn_app (goodIn_of _ (by decide +kernel)) ggX6_bestOf_X6_amount
theorem dX6_bestOf_0 : decode cX6_bestOf 0 = .ok (.iconst (-1), 1) := by decide +kernel
theorem dX6_bestOf_1 : decode cX6_bestOf 1 = .ok (.istore_n 2, 1) := by decide +kernel
theorem dX6_bestOf_2 : decode cX6_bestOf 2 = .ok (.iconst 0, 1) := by decide +kernel
theorem dX6_bestOf_3 : decode cX6_bestOf 3 = .ok (.istore_n 3, 1) := by decide +kernel
theorem dX6_bestOf_4 : decode cX6_bestOf 4 = .ok (.iload_n 3, 1) := by decide +kernel
theorem dX6_bestOf_5 : decode cX6_bestOf 5 = .ok (.aload_n 0, 1) := by decide +kernel
theorem dX6_bestOf_6 : decode cX6_bestOf 6 = .ok (.getfield 171, 3) := by decide +kernel
theorem dX6_bestOf_9 : decode cX6_bestOf 9 = .ok (.if_icmp .ge 83, 3) := by decide +kernel
theorem dX6_bestOf_12 : decode cX6_bestOf 12 = .ok (.aload_n 0, 1) := by decide +kernel
theorem dX6_bestOf_13 : decode cX6_bestOf 13 = .ok (.aload_n 0, 1) := by decide +kernel
theorem dX6_bestOf_14 : decode cX6_bestOf 14 = .ok (.getfield 46, 3) := by decide +kernel
theorem dX6_bestOf_17 : decode cX6_bestOf 17 = .ok (.iload_n 3, 1) := by decide +kernel
theorem dX6_bestOf_18 : decode cX6_bestOf 18 = .ok (.iaload, 1) := by decide +kernel
theorem dX6_bestOf_19 : decode cX6_bestOf 19 = .ok (.iload_n 1, 1) := by decide +kernel
theorem dX6_bestOf_20 : decode cX6_bestOf 20 = .ok (.aload_n 0, 1) := by decide +kernel
theorem dX6_bestOf_21 : decode cX6_bestOf 21 = .ok (.getfield 171, 3) := by decide +kernel
theorem dX6_bestOf_24 : decode cX6_bestOf 24 = .ok (.invokevirtual 174, 3) := by decide +kernel
theorem dX6_bestOf_27 : decode cX6_bestOf 27 = .ok (.istore 4, 2) := by decide +kernel
theorem dX6_bestOf_29 : decode cX6_bestOf 29 = .ok (.aload_n 0, 1) := by decide +kernel
theorem dX6_bestOf_30 : decode cX6_bestOf 30 = .ok (.getfield 9, 3) := by decide +kernel
theorem dX6_bestOf_33 : decode cX6_bestOf 33 = .ok (.iconst 3, 1) := by decide +kernel
theorem dX6_bestOf_34 : decode cX6_bestOf 34 = .ok (.iaload, 1) := by decide +kernel
theorem dX6_bestOf_35 : decode cX6_bestOf 35 = .ok (.ifCond .ne 29, 3) := by decide +kernel
theorem dX6_bestOf_38 : decode cX6_bestOf 38 = .ok (.iload_n 2, 1) := by decide +kernel
theorem dX6_bestOf_39 : decode cX6_bestOf 39 = .ok (.ifCond .lt 12, 3) := by decide +kernel
theorem dX6_bestOf_42 : decode cX6_bestOf 42 = .ok (.iload 4, 2) := by decide +kernel
theorem dX6_bestOf_44 : decode cX6_bestOf 44 = .ok (.invokestatic 177, 3) := by decide +kernel
theorem dX6_bestOf_47 : decode cX6_bestOf 47 = .ok (.iload_n 2, 1) := by decide +kernel
theorem dX6_bestOf_48 : decode cX6_bestOf 48 = .ok (.if_icmp .ge 11, 3) := by decide +kernel
theorem dX6_bestOf_51 : decode cX6_bestOf 51 = .ok (.iload 4, 2) := by decide +kernel
theorem dX6_bestOf_53 : decode cX6_bestOf 53 = .ok (.invokestatic 177, 3) := by decide +kernel
theorem dX6_bestOf_56 : decode cX6_bestOf 56 = .ok (.goto 4, 3) := by decide +kernel
theorem dX6_bestOf_59 : decode cX6_bestOf 59 = .ok (.iload_n 2, 1) := by decide +kernel
theorem dX6_bestOf_60 : decode cX6_bestOf 60 = .ok (.istore_n 2, 1) := by decide +kernel
theorem dX6_bestOf_61 : decode cX6_bestOf 61 = .ok (.goto 25, 3) := by decide +kernel
theorem dX6_bestOf_64 : decode cX6_bestOf 64 = .ok (.iload 4, 2) := by decide +kernel
theorem dX6_bestOf_66 : decode cX6_bestOf 66 = .ok (.ifCond .gt 20, 3) := by decide +kernel
theorem dX6_bestOf_69 : decode cX6_bestOf 69 = .ok (.aload_n 0, 1) := by decide +kernel
theorem dX6_bestOf_70 : decode cX6_bestOf 70 = .ok (.getfield 46, 3) := by decide +kernel
theorem dX6_bestOf_73 : decode cX6_bestOf 73 = .ok (.iload_n 3, 1) := by decide +kernel
theorem dX6_bestOf_74 : decode cX6_bestOf 74 = .ok (.iaload, 1) := by decide +kernel
theorem dX6_bestOf_75 : decode cX6_bestOf 75 = .ok (.iload_n 2, 1) := by decide +kernel
theorem dX6_bestOf_76 : decode cX6_bestOf 76 = .ok (.if_icmp .le 10, 3) := by decide +kernel
theorem dX6_bestOf_79 : decode cX6_bestOf 79 = .ok (.aload_n 0, 1) := by decide +kernel
theorem dX6_bestOf_80 : decode cX6_bestOf 80 = .ok (.getfield 46, 3) := by decide +kernel
theorem dX6_bestOf_83 : decode cX6_bestOf 83 = .ok (.iload_n 3, 1) := by decide +kernel
theorem dX6_bestOf_84 : decode cX6_bestOf 84 = .ok (.iaload, 1) := by decide +kernel
theorem dX6_bestOf_85 : decode cX6_bestOf 85 = .ok (.istore_n 2, 1) := by decide +kernel
theorem dX6_bestOf_86 : decode cX6_bestOf 86 = .ok (.iinc 3 1, 3) := by decide +kernel
theorem dX6_bestOf_89 : decode cX6_bestOf 89 = .ok (.goto (-85), 3) := by decide +kernel
theorem dX6_bestOf_92 : decode cX6_bestOf 92 = .ok (.iload_n 2, 1) := by decide +kernel
theorem dX6_bestOf_93 : decode cX6_bestOf 93 = .ok (.ireturn, 1) := by decide +kernel
set_option maxRecDepth 20000 in
theorem ggX6_winnersOf_X6_sumOf : GoodIn wsX6_winnersOf wsX6_sumOf := goodIn_r _ [7, 1, 2, 24, 25, 26, 27, 28, 29, 30, 31, 32, 33, 34, 35, 36, 37, 38, 39, 40, 41, 42, 43, 44] (by decide +kernel) (by decide +kernel)
set_option maxRecDepth 20000 in
theorem gX6_winnersOf_X6_sumOf : GoodIn wsX6_winnersOf (wsV RX6 180 RX6 yX6_sumOf wsX6_sumOf) := goodIn_app (goodIn_of _ (by decide +kernel)) ggX6_winnersOf_X6_sumOf
set_option maxRecDepth 20000 in
theorem ggX6_winnersOf_X6_bestOf : GoodIn wsX6_winnersOf wsX6_bestOf := goodIn_r _ [11, 1, 2, 12, 13, 14, 15, 6, 16, 17, 18, 19, 24, 25, 26, 27, 28, 29, 30, 31, 32, 33, 34, 35, 36, 37, 38, 39, 40, 41, 42, 43, 44] (by decide +kernel) (by decide +kernel)
set_option maxRecDepth 20000 in
theorem gX6_winnersOf_X6_bestOf : GoodIn wsX6_winnersOf (wsV RX6 183 RX6 yX6_bestOf wsX6_bestOf) := goodIn_app (goodIn_of _ (by decide +kernel)) ggX6_winnersOf_X6_bestOf
set_option maxRecDepth 20000 in
theorem ggX6_winnersOf_X6_wins : GoodIn wsX6_winnersOf wsX6_wins := goodIn_r _ [23, 1, 12, 13, 14, 15, 6, 16, 17, 18, 19, 24, 25, 26, 27, 28, 29, 30, 31, 32, 33, 34, 35, 36, 37, 38, 39, 40, 41, 42, 43, 44] (by decide +kernel) (by decide +kernel)
set_option maxRecDepth 20000 in
theorem gX6_winnersOf_X6_wins : GoodIn wsX6_winnersOf (wsV RX6 186 RX6 yX6_wins wsX6_wins) := goodIn_app (goodIn_of _ (by decide +kernel)) ggX6_winnersOf_X6_wins
theorem dX6_winnersOf_0 : decode cX6_winnersOf 0 = .ok (.aload_n 0, 1) := by decide +kernel
theorem dX6_winnersOf_1 : decode cX6_winnersOf 1 = .ok (.invokevirtual 180, 3) := by decide +kernel
theorem dX6_winnersOf_4 : decode cX6_winnersOf 4 = .ok (.istore_n 2, 1) := by decide +kernel
theorem dX6_winnersOf_5 : decode cX6_winnersOf 5 = .ok (.aload_n 0, 1) := by decide +kernel
theorem dX6_winnersOf_6 : decode cX6_winnersOf 6 = .ok (.iload_n 2, 1) := by decide +kernel
theorem dX6_winnersOf_7 : decode cX6_winnersOf 7 = .ok (.invokevirtual 183, 3) := by decide +kernel
theorem dX6_winnersOf_10 : decode cX6_winnersOf 10 = .ok (.istore_n 3, 1) := by decide +kernel
theorem dX6_winnersOf_11 : decode cX6_winnersOf 11 = .ok (.iconst 0, 1) := by decide +kernel
theorem dX6_winnersOf_12 : decode cX6_winnersOf 12 = .ok (.istore 4, 2) := by decide +kernel
theorem dX6_winnersOf_14 : decode cX6_winnersOf 14 = .ok (.iconst 0, 1) := by decide +kernel
theorem dX6_winnersOf_15 : decode cX6_winnersOf 15 = .ok (.istore 5, 2) := by decide +kernel
theorem dX6_winnersOf_17 : decode cX6_winnersOf 17 = .ok (.iload 5, 2) := by decide +kernel
theorem dX6_winnersOf_19 : decode cX6_winnersOf 19 = .ok (.aload_n 0, 1) := by decide +kernel
theorem dX6_winnersOf_20 : decode cX6_winnersOf 20 = .ok (.getfield 171, 3) := by decide +kernel
theorem dX6_winnersOf_23 : decode cX6_winnersOf 23 = .ok (.if_icmp .ge 39, 3) := by decide +kernel
theorem dX6_winnersOf_26 : decode cX6_winnersOf 26 = .ok (.aload_n 0, 1) := by decide +kernel
theorem dX6_winnersOf_27 : decode cX6_winnersOf 27 = .ok (.aload_n 0, 1) := by decide +kernel
theorem dX6_winnersOf_28 : decode cX6_winnersOf 28 = .ok (.getfield 46, 3) := by decide +kernel
theorem dX6_winnersOf_31 : decode cX6_winnersOf 31 = .ok (.iload 5, 2) := by decide +kernel
theorem dX6_winnersOf_33 : decode cX6_winnersOf 33 = .ok (.iaload, 1) := by decide +kernel
theorem dX6_winnersOf_34 : decode cX6_winnersOf 34 = .ok (.iload_n 2, 1) := by decide +kernel
theorem dX6_winnersOf_35 : decode cX6_winnersOf 35 = .ok (.iload_n 3, 1) := by decide +kernel
theorem dX6_winnersOf_36 : decode cX6_winnersOf 36 = .ok (.invokevirtual 186, 3) := by decide +kernel
theorem dX6_winnersOf_39 : decode cX6_winnersOf 39 = .ok (.ifCond .ne 6, 3) := by decide +kernel
theorem dX6_winnersOf_42 : decode cX6_winnersOf 42 = .ok (.goto 14, 3) := by decide +kernel
theorem dX6_winnersOf_45 : decode cX6_winnersOf 45 = .ok (.iload_n 1, 1) := by decide +kernel
theorem dX6_winnersOf_46 : decode cX6_winnersOf 46 = .ok (.iconst 1, 1) := by decide +kernel
theorem dX6_winnersOf_47 : decode cX6_winnersOf 47 = .ok (.if_icmp .ne 6, 3) := by decide +kernel
theorem dX6_winnersOf_50 : decode cX6_winnersOf 50 = .ok (.iload 5, 2) := by decide +kernel
theorem dX6_winnersOf_52 : decode cX6_winnersOf 52 = .ok (.ireturn, 1) := by decide +kernel
theorem dX6_winnersOf_53 : decode cX6_winnersOf 53 = .ok (.iinc 4 1, 3) := by decide +kernel
theorem dX6_winnersOf_56 : decode cX6_winnersOf 56 = .ok (.iinc 5 1, 3) := by decide +kernel
theorem dX6_winnersOf_59 : decode cX6_winnersOf 59 = .ok (.goto (-42), 3) := by decide +kernel
theorem dX6_winnersOf_62 : decode cX6_winnersOf 62 = .ok (.iload_n 1, 1) := by decide +kernel
theorem dX6_winnersOf_63 : decode cX6_winnersOf 63 = .ok (.iconst 1, 1) := by decide +kernel
theorem dX6_winnersOf_64 : decode cX6_winnersOf 64 = .ok (.if_icmp .ne 8, 3) := by decide +kernel
theorem dX6_winnersOf_67 : decode cX6_winnersOf 67 = .ok (.bipush (-4), 2) := by decide +kernel
theorem dX6_winnersOf_69 : decode cX6_winnersOf 69 = .ok (.goto 5, 3) := by decide +kernel
theorem dX6_winnersOf_72 : decode cX6_winnersOf 72 = .ok (.iload 4, 2) := by decide +kernel
theorem dX6_winnersOf_74 : decode cX6_winnersOf 74 = .ok (.ireturn, 1) := by decide +kernel
set_option maxRecDepth 20000 in
theorem ggX6_last_X6_isIn : GoodIn wsX6_last wsX6_isIn := goodIn_r _ [6] (by decide +kernel) (by decide +kernel)
set_option maxRecDepth 20000 in
theorem gX6_last_X6_isIn : GoodIn wsX6_last (va_wsS RX6 56 yX6_isIn wsX6_isIn) := goodIn_app (goodIn_of _ (by decide +kernel)) ggX6_last_X6_isIn
set_option maxRecDepth 20000 in
theorem ggX6_last_X6_takesLast : GoodIn wsX6_last wsX6_takesLast := goodIn_r _ [10, 2, 11, 12, 13, 14, 15, 5, 16, 40, 41, 42, 43, 44, 45, 46, 47, 48, 49, 50, 51, 52, 53, 54, 55, 56, 57, 58, 59, 60] (by decide +kernel) (by decide +kernel)
set_option maxRecDepth 20000 in
theorem gX6_last_X6_takesLast : GoodIn wsX6_last (wsV RX6 192 RX6 yX6_takesLast wsX6_takesLast) := goodIn_app (goodIn_of _ (by decide +kernel)) ggX6_last_X6_takesLast
set_option maxRecDepth 20000 in
theorem ggX6_last_X6_sumOf : GoodIn wsX6_last wsX6_sumOf := goodIn_r _ [20, 11, 12, 40, 41, 42, 43, 44, 45, 46, 47, 48, 49, 50, 51, 52, 53, 54, 55, 56, 57, 58, 59, 60] (by decide +kernel) (by decide +kernel)
set_option maxRecDepth 20000 in
theorem gX6_last_X6_sumOf : GoodIn wsX6_last (wsV RX6 180 RX6 yX6_sumOf wsX6_sumOf) := goodIn_app (goodIn_of _ (by decide +kernel)) ggX6_last_X6_sumOf
set_option maxRecDepth 20000 in
theorem ggX6_last_X6_winnersOf : GoodIn wsX6_last wsX6_winnersOf := goodIn_r _ [24, 11, 12, 17, 18, 19, 5, 20, 25, 26, 27, 28, 2, 29, 30, 31, 32, 33, 34, 35, 36, 37, 38, 39, 40, 41, 42, 43, 44, 45, 46, 47, 48, 49, 50, 51, 52, 53, 54, 55, 56, 57, 58, 59, 60] (by decide +kernel) (by decide +kernel)
set_option maxRecDepth 20000 in
theorem gX6_last_X6_winnersOf : GoodIn wsX6_last (wsV RX6 195 RX6 yX6_winnersOf wsX6_winnersOf) := goodIn_app (goodIn_of _ (by decide +kernel)) ggX6_last_X6_winnersOf
theorem dX6_last_0 : decode cX6_last 0 = .ok (.iload_n 1, 1) := by decide +kernel
theorem dX6_last_1 : decode cX6_last 1 = .ok (.i2l, 1) := by decide +kernel
theorem dX6_last_2 : decode cX6_last 2 = .ok (.lconst 0, 1) := by decide +kernel
theorem dX6_last_3 : decode cX6_last 3 = .ok (.ldc2_w 190, 3) := by decide +kernel
theorem dX6_last_6 : decode cX6_last 6 = .ok (.invokestatic 56, 3) := by decide +kernel
theorem dX6_last_9 : decode cX6_last 9 = .ok (.ifCond .ne 5, 3) := by decide +kernel
theorem dX6_last_12 : decode cX6_last 12 = .ok (.iconst (-1), 1) := by decide +kernel
theorem dX6_last_13 : decode cX6_last 13 = .ok (.ireturn, 1) := by decide +kernel
theorem dX6_last_14 : decode cX6_last 14 = .ok (.aload_n 0, 1) := by decide +kernel
theorem dX6_last_15 : decode cX6_last 15 = .ok (.getfield 9, 3) := by decide +kernel
theorem dX6_last_18 : decode cX6_last 18 = .ok (.bipush 6, 2) := by decide +kernel
theorem dX6_last_20 : decode cX6_last 20 = .ok (.iaload, 1) := by decide +kernel
theorem dX6_last_21 : decode cX6_last 21 = .ok (.ifCond .ne 6, 3) := by decide +kernel
theorem dX6_last_24 : decode cX6_last 24 = .ok (.bipush (-3), 2) := by decide +kernel
theorem dX6_last_26 : decode cX6_last 26 = .ok (.ireturn, 1) := by decide +kernel
theorem dX6_last_27 : decode cX6_last 27 = .ok (.aload_n 0, 1) := by decide +kernel
theorem dX6_last_28 : decode cX6_last 28 = .ok (.invokevirtual 192, 3) := by decide +kernel
theorem dX6_last_31 : decode cX6_last 31 = .ok (.iload_n 1, 1) := by decide +kernel
theorem dX6_last_32 : decode cX6_last 32 = .ok (.ifCond .ne 10, 3) := by decide +kernel
theorem dX6_last_35 : decode cX6_last 35 = .ok (.aload_n 0, 1) := by decide +kernel
theorem dX6_last_36 : decode cX6_last 36 = .ok (.invokevirtual 180, 3) := by decide +kernel
theorem dX6_last_39 : decode cX6_last 39 = .ok (.goto 10, 3) := by decide +kernel
theorem dX6_last_42 : decode cX6_last 42 = .ok (.aload_n 0, 1) := by decide +kernel
theorem dX6_last_43 : decode cX6_last 43 = .ok (.iload_n 1, 1) := by decide +kernel
theorem dX6_last_44 : decode cX6_last 44 = .ok (.iconst 1, 1) := by decide +kernel
theorem dX6_last_45 : decode cX6_last 45 = .ok (.isub, 1) := by decide +kernel
theorem dX6_last_46 : decode cX6_last 46 = .ok (.invokevirtual 195, 3) := by decide +kernel
theorem dX6_last_49 : decode cX6_last 49 = .ok (.ireturn, 1) := by decide +kernel
theorem dX6_common_0 : decode cX6_common 0 = .ok (.lload_n 0, 1) := by decide +kernel
theorem dX6_common_1 : decode cX6_common 1 = .ok (.lstore 4, 2) := by decide +kernel
theorem dX6_common_3 : decode cX6_common 3 = .ok (.lload_n 2, 1) := by decide +kernel
theorem dX6_common_4 : decode cX6_common 4 = .ok (.lstore 6, 2) := by decide +kernel
theorem dX6_common_6 : decode cX6_common 6 = .ok (.lload 6, 2) := by decide +kernel
theorem dX6_common_8 : decode cX6_common 8 = .ok (.lconst 0, 1) := by decide +kernel
theorem dX6_common_9 : decode cX6_common 9 = .ok (.lcmp, 1) := by decide +kernel
theorem dX6_common_10 : decode cX6_common 10 = .ok (.ifCond .eq 21, 3) := by decide +kernel
theorem dX6_common_13 : decode cX6_common 13 = .ok (.lload 4, 2) := by decide +kernel
theorem dX6_common_15 : decode cX6_common 15 = .ok (.lload 6, 2) := by decide +kernel
theorem dX6_common_17 : decode cX6_common 17 = .ok (.lrem, 1) := by decide +kernel
theorem dX6_common_18 : decode cX6_common 18 = .ok (.lstore 8, 2) := by decide +kernel
theorem dX6_common_20 : decode cX6_common 20 = .ok (.lload 6, 2) := by decide +kernel
theorem dX6_common_22 : decode cX6_common 22 = .ok (.lstore 4, 2) := by decide +kernel
theorem dX6_common_24 : decode cX6_common 24 = .ok (.lload 8, 2) := by decide +kernel
theorem dX6_common_26 : decode cX6_common 26 = .ok (.lstore 6, 2) := by decide +kernel
theorem dX6_common_28 : decode cX6_common 28 = .ok (.goto (-22), 3) := by decide +kernel
theorem dX6_common_31 : decode cX6_common 31 = .ok (.lload 4, 2) := by decide +kernel
theorem dX6_common_33 : decode cX6_common 33 = .ok (.lconst 0, 1) := by decide +kernel
theorem dX6_common_34 : decode cX6_common 34 = .ok (.lcmp, 1) := by decide +kernel
theorem dX6_common_35 : decode cX6_common 35 = .ok (.ifCond .ge 9, 3) := by decide +kernel
theorem dX6_common_38 : decode cX6_common 38 = .ok (.lload 4, 2) := by decide +kernel
theorem dX6_common_40 : decode cX6_common 40 = .ok (.lneg, 1) := by decide +kernel
theorem dX6_common_41 : decode cX6_common 41 = .ok (.goto 5, 3) := by decide +kernel
theorem dX6_common_44 : decode cX6_common 44 = .ok (.lload 4, 2) := by decide +kernel
theorem dX6_common_46 : decode cX6_common 46 = .ok (.lreturn, 1) := by decide +kernel
set_option maxRecDepth 20000 in
theorem ggX6_partOf_X6_common : GoodIn wsX6_partOf wsX6_common := goodIn_r _ [4] (by decide +kernel) (by decide +kernel)
set_option maxRecDepth 20000 in
theorem gX6_partOf_X6_common : GoodIn wsX6_partOf (va_wsS RX6 198 yX6_common wsX6_common) := goodIn_app (goodIn_of _ (by decide +kernel)) ggX6_partOf_X6_common
theorem dX6_partOf_0 : decode cX6_partOf 0 = .ok (.lload_n 0, 1) := by decide +kernel
theorem dX6_partOf_1 : decode cX6_partOf 1 = .ok (.lload_n 2, 1) := by decide +kernel
theorem dX6_partOf_2 : decode cX6_partOf 2 = .ok (.invokestatic 198, 3) := by decide +kernel
theorem dX6_partOf_5 : decode cX6_partOf 5 = .ok (.lstore 5, 2) := by decide +kernel
theorem dX6_partOf_7 : decode cX6_partOf 7 = .ok (.iload 4, 2) := by decide +kernel
theorem dX6_partOf_9 : decode cX6_partOf 9 = .ok (.ifCond .ne 10, 3) := by decide +kernel
theorem dX6_partOf_12 : decode cX6_partOf 12 = .ok (.lload_n 0, 1) := by decide +kernel
theorem dX6_partOf_13 : decode cX6_partOf 13 = .ok (.lload 5, 2) := by decide +kernel
theorem dX6_partOf_15 : decode cX6_partOf 15 = .ok (.ldiv, 1) := by decide +kernel
theorem dX6_partOf_16 : decode cX6_partOf 16 = .ok (.goto 7, 3) := by decide +kernel
theorem dX6_partOf_19 : decode cX6_partOf 19 = .ok (.lload_n 2, 1) := by decide +kernel
theorem dX6_partOf_20 : decode cX6_partOf 20 = .ok (.lload 5, 2) := by decide +kernel
theorem dX6_partOf_22 : decode cX6_partOf 22 = .ok (.ldiv, 1) := by decide +kernel
theorem dX6_partOf_23 : decode cX6_partOf 23 = .ok (.lreturn, 1) := by decide +kernel
set_option maxRecDepth 20000 in
theorem ggX6_targetOf_X6_sumOf : GoodIn wsX6_targetOf wsX6_sumOf := goodIn_r _ [7, 2, 8, 15, 16, 17, 18, 19, 20, 21, 22, 23, 24, 25, 26, 27, 28, 29, 30, 31, 32, 33, 34, 35] (by decide +kernel) (by decide +kernel)
set_option maxRecDepth 20000 in
theorem gX6_targetOf_X6_sumOf : GoodIn wsX6_targetOf (wsV RX6 180 RX6 yX6_sumOf wsX6_sumOf) := goodIn_app (goodIn_of _ (by decide +kernel)) ggX6_targetOf_X6_sumOf
set_option maxRecDepth 20000 in
theorem ggX6_targetOf_X6_partOf : GoodIn wsX6_targetOf wsX6_partOf := goodIn_r _ [11, 12, 13, 6, 14] (by decide +kernel) (by decide +kernel)
set_option maxRecDepth 20000 in
theorem gX6_targetOf_X6_partOf : GoodIn wsX6_targetOf (va_wsS RX6 202 yX6_partOf wsX6_partOf) := goodIn_app (goodIn_of _ (by decide +kernel)) ggX6_targetOf_X6_partOf
theorem dX6_targetOf_0 : decode cX6_targetOf 0 = .ok (.aload_n 0, 1) := by decide +kernel
theorem dX6_targetOf_1 : decode cX6_targetOf 1 = .ok (.getfield 9, 3) := by decide +kernel
theorem dX6_targetOf_4 : decode cX6_targetOf 4 = .ok (.iconst 0, 1) := by decide +kernel
theorem dX6_targetOf_5 : decode cX6_targetOf 5 = .ok (.iaload, 1) := by decide +kernel
theorem dX6_targetOf_6 : decode cX6_targetOf 6 = .ok (.i2l, 1) := by decide +kernel
theorem dX6_targetOf_7 : decode cX6_targetOf 7 = .ok (.aload_n 0, 1) := by decide +kernel
theorem dX6_targetOf_8 : decode cX6_targetOf 8 = .ok (.invokevirtual 180, 3) := by decide +kernel
theorem dX6_targetOf_11 : decode cX6_targetOf 11 = .ok (.i2l, 1) := by decide +kernel
theorem dX6_targetOf_12 : decode cX6_targetOf 12 = .ok (.lmul, 1) := by decide +kernel
theorem dX6_targetOf_13 : decode cX6_targetOf 13 = .ok (.aload_n 0, 1) := by decide +kernel
theorem dX6_targetOf_14 : decode cX6_targetOf 14 = .ok (.getfield 9, 3) := by decide +kernel
theorem dX6_targetOf_17 : decode cX6_targetOf 17 = .ok (.iconst 1, 1) := by decide +kernel
theorem dX6_targetOf_18 : decode cX6_targetOf 18 = .ok (.iaload, 1) := by decide +kernel
theorem dX6_targetOf_19 : decode cX6_targetOf 19 = .ok (.i2l, 1) := by decide +kernel
theorem dX6_targetOf_20 : decode cX6_targetOf 20 = .ok (.aload_n 0, 1) := by decide +kernel
theorem dX6_targetOf_21 : decode cX6_targetOf 21 = .ok (.getfield 171, 3) := by decide +kernel
theorem dX6_targetOf_24 : decode cX6_targetOf 24 = .ok (.i2l, 1) := by decide +kernel
theorem dX6_targetOf_25 : decode cX6_targetOf 25 = .ok (.lmul, 1) := by decide +kernel
theorem dX6_targetOf_26 : decode cX6_targetOf 26 = .ok (.iload_n 1, 1) := by decide +kernel
theorem dX6_targetOf_27 : decode cX6_targetOf 27 = .ok (.invokestatic 202, 3) := by decide +kernel
theorem dX6_targetOf_30 : decode cX6_targetOf 30 = .ok (.lreturn, 1) := by decide +kernel
set_option maxRecDepth 20000 in
theorem ggX6_target_X6_isIn : GoodIn wsX6_target wsX6_isIn := goodIn_r _ [5] (by decide +kernel) (by decide +kernel)
set_option maxRecDepth 20000 in
theorem gX6_target_X6_isIn : GoodIn wsX6_target (va_wsS RX6 56 yX6_isIn wsX6_isIn) := goodIn_app (goodIn_of _ (by decide +kernel)) ggX6_target_X6_isIn
set_option maxRecDepth 20000 in
theorem ggX6_target_X6_takesLast : GoodIn wsX6_target wsX6_takesLast := goodIn_r _ [9, 1, 10, 11, 12, 13, 14, 4, 15, 30, 31, 32, 33, 34, 35, 36, 37, 38, 39, 40, 41, 42, 43, 44, 45, 46, 47, 48, 49, 50] (by decide +kernel) (by decide +kernel)
set_option maxRecDepth 20000 in
theorem gX6_target_X6_takesLast : GoodIn wsX6_target (wsV RX6 192 RX6 yX6_takesLast wsX6_takesLast) := goodIn_app (goodIn_of _ (by decide +kernel)) ggX6_target_X6_takesLast
set_option maxRecDepth 20000 in
theorem ggX6_target_X6_targetOf : GoodIn wsX6_target wsX6_targetOf := goodIn_r _ [19, 1, 10, 20, 21, 22, 4, 23, 11, 24, 25, 26, 27, 28, 29, 30, 31, 32, 33, 34, 35, 36, 37, 38, 39, 40, 41, 42, 43, 44, 45, 46, 47, 48, 49, 50] (by decide +kernel) (by decide +kernel)
set_option maxRecDepth 20000 in
theorem gX6_target_X6_targetOf : GoodIn wsX6_target (wsV RX6 206 RX6 yX6_targetOf wsX6_targetOf) := goodIn_app (goodIn_of _ (by decide +kernel)) ggX6_target_X6_targetOf
theorem dX6_target_0 : decode cX6_target 0 = .ok (.iload_n 1, 1) := by decide +kernel
theorem dX6_target_1 : decode cX6_target 1 = .ok (.i2l, 1) := by decide +kernel
theorem dX6_target_2 : decode cX6_target 2 = .ok (.lconst 0, 1) := by decide +kernel
theorem dX6_target_3 : decode cX6_target 3 = .ok (.lconst 1, 1) := by decide +kernel
theorem dX6_target_4 : decode cX6_target 4 = .ok (.invokestatic 56, 3) := by decide +kernel
theorem dX6_target_7 : decode cX6_target 7 = .ok (.ifCond .ne 5, 3) := by decide +kernel
theorem dX6_target_10 : decode cX6_target 10 = .ok (.iconst (-1), 1) := by decide +kernel
theorem dX6_target_11 : decode cX6_target 11 = .ok (.ireturn, 1) := by decide +kernel
theorem dX6_target_12 : decode cX6_target 12 = .ok (.aload_n 0, 1) := by decide +kernel
theorem dX6_target_13 : decode cX6_target 13 = .ok (.getfield 9, 3) := by decide +kernel
theorem dX6_target_16 : decode cX6_target 16 = .ok (.bipush 6, 2) := by decide +kernel
theorem dX6_target_18 : decode cX6_target 18 = .ok (.iaload, 1) := by decide +kernel
theorem dX6_target_19 : decode cX6_target 19 = .ok (.ifCond .ne 6, 3) := by decide +kernel
theorem dX6_target_22 : decode cX6_target 22 = .ok (.bipush (-3), 2) := by decide +kernel
theorem dX6_target_24 : decode cX6_target 24 = .ok (.ireturn, 1) := by decide +kernel
theorem dX6_target_25 : decode cX6_target 25 = .ok (.aload_n 0, 1) := by decide +kernel
theorem dX6_target_26 : decode cX6_target 26 = .ok (.invokevirtual 192, 3) := by decide +kernel
theorem dX6_target_29 : decode cX6_target 29 = .ok (.aload_n 0, 1) := by decide +kernel
theorem dX6_target_30 : decode cX6_target 30 = .ok (.iload_n 1, 1) := by decide +kernel
theorem dX6_target_31 : decode cX6_target 31 = .ok (.invokevirtual 206, 3) := by decide +kernel
theorem dX6_target_34 : decode cX6_target 34 = .ok (.l2i, 1) := by decide +kernel
theorem dX6_target_35 : decode cX6_target 35 = .ok (.ireturn, 1) := by decide +kernel
set_option maxRecDepth 20000 in
theorem ggX6_wins__X6_isPerson : GoodIn wsX6_wins_ wsX6_isPerson := goodIn_r _ [9, 3, 10, 11, 8, 12, 89, 90, 91, 92, 93, 94, 95, 96, 97, 98, 99, 100, 101, 102, 103, 104, 105, 106, 107, 108, 109] (by decide +kernel) (by decide +kernel)
set_option maxRecDepth 20000 in
theorem gX6_wins__X6_isPerson : GoodIn wsX6_wins_ (wsV RX6 117 RX6 yX6_isPerson wsX6_isPerson) := goodIn_app (goodIn_of _ (by decide +kernel)) ggX6_wins__X6_isPerson
set_option maxRecDepth 20000 in
theorem ggX6_wins__X6_isIn : GoodIn wsX6_wins_ wsX6_isIn := goodIn_r _ [12] (by decide +kernel) (by decide +kernel)
set_option maxRecDepth 20000 in
theorem gX6_wins__X6_isIn : GoodIn wsX6_wins_ (va_wsS RX6 56 yX6_isIn wsX6_isIn) := goodIn_app (goodIn_of _ (by decide +kernel)) ggX6_wins__X6_isIn
set_option maxRecDepth 20000 in
theorem ggX6_wins__X6_goesRound : GoodIn wsX6_wins_ wsX6_goesRound := goodIn_r _ [16, 3, 17, 18, 19, 20, 8, 21, 22, 23, 24, 25, 26, 27, 28, 29, 30, 31, 32, 33, 34, 35, 36, 37, 38, 39, 40, 41, 42, 43, 44, 45, 46, 47, 48, 49, 50, 51, 52, 53, 54, 55, 56, 57, 58, 59, 60, 61, 62, 63, 64, 89, 90, 91, 92, 93, 94, 95, 96, 97, 98, 99, 100, 101, 102, 103, 104, 105, 106, 107, 108, 109] (by decide +kernel) (by decide +kernel)
set_option maxRecDepth 20000 in
theorem gX6_wins__X6_goesRound : GoodIn wsX6_wins_ (wsV RX6 168 RX6 yX6_goesRound wsX6_goesRound) := goodIn_app (goodIn_of _ (by decide +kernel)) ggX6_wins__X6_goesRound
set_option maxRecDepth 20000 in
theorem ggX6_wins__X6_takesLast : GoodIn wsX6_wins_ wsX6_takesLast := goodIn_r _ [68, 3, 69, 4, 26, 27, 28, 8, 29, 89, 90, 91, 92, 93, 94, 95, 96, 97, 98, 99, 100, 101, 102, 103, 104, 105, 106, 107, 108, 109] (by decide +kernel) (by decide +kernel)
set_option maxRecDepth 20000 in
theorem gX6_wins__X6_takesLast : GoodIn wsX6_wins_ (wsV RX6 192 RX6 yX6_takesLast wsX6_takesLast) := goodIn_app (goodIn_of _ (by decide +kernel)) ggX6_wins__X6_takesLast
set_option maxRecDepth 20000 in
theorem ggX6_wins__X6_sumOf : GoodIn wsX6_wins_ wsX6_sumOf := goodIn_r _ [73, 69, 4, 89, 90, 91, 92, 93, 94, 95, 96, 97, 98, 99, 100, 101, 102, 103, 104, 105, 106, 107, 108, 109] (by decide +kernel) (by decide +kernel)
set_option maxRecDepth 20000 in
theorem gX6_wins__X6_sumOf : GoodIn wsX6_wins_ (wsV RX6 180 RX6 yX6_sumOf wsX6_sumOf) := goodIn_app (goodIn_of _ (by decide +kernel)) ggX6_wins__X6_sumOf
set_option maxRecDepth 20000 in
theorem ggX6_wins__X6_bestOf : GoodIn wsX6_wins_ wsX6_bestOf := goodIn_r _ [77, 69, 4, 3, 78, 79, 80, 8, 81, 82, 83, 84, 89, 90, 91, 92, 93, 94, 95, 96, 97, 98, 99, 100, 101, 102, 103, 104, 105, 106, 107, 108, 109] (by decide +kernel) (by decide +kernel)
set_option maxRecDepth 20000 in
theorem gX6_wins__X6_bestOf : GoodIn wsX6_wins_ (wsV RX6 183 RX6 yX6_bestOf wsX6_bestOf) := goodIn_app (goodIn_of _ (by decide +kernel)) ggX6_wins__X6_bestOf
set_option maxRecDepth 20000 in
theorem ggX6_wins__X6_wins : GoodIn wsX6_wins_ wsX6_wins := goodIn_r _ [88, 69, 3, 78, 79, 80, 8, 81, 82, 83, 84, 89, 90, 91, 92, 93, 94, 95, 96, 97, 98, 99, 100, 101, 102, 103, 104, 105, 106, 107, 108, 109] (by decide +kernel) (by decide +kernel)
set_option maxRecDepth 20000 in
theorem gX6_wins__X6_wins : GoodIn wsX6_wins_ (wsV RX6 186 RX6 yX6_wins wsX6_wins) := goodIn_app (goodIn_of _ (by decide +kernel)) ggX6_wins__X6_wins
