theorem dX6_wins__0 : decode cX6_wins_ 0 = .ok (.aload_n 0, 1) := by decide +kernel
theorem dX6_wins__1 : decode cX6_wins_ 1 = .ok (.iload_n 1, 1) := by decide +kernel
theorem dX6_wins__2 : decode cX6_wins_ 2 = .ok (.invokevirtual 117, 3) := by decide +kernel
theorem dX6_wins__5 : decode cX6_wins_ 5 = .ok (.ifCond .eq 15, 3) := by decide +kernel
theorem dX6_wins__8 : decode cX6_wins_ 8 = .ok (.iload_n 2, 1) := by decide +kernel
theorem dX6_wins__9 : decode cX6_wins_ 9 = .ok (.i2l, 1) := by decide +kernel
theorem dX6_wins__10 : decode cX6_wins_ 10 = .ok (.lconst 1, 1) := by decide +kernel
theorem dX6_wins__11 : decode cX6_wins_ 11 = .ok (.ldc2_w 102, 3) := by decide +kernel
theorem dX6_wins__14 : decode cX6_wins_ 14 = .ok (.invokestatic 56, 3) := by decide +kernel
theorem dX6_wins__17 : decode cX6_wins_ 17 = .ok (.ifCond .ne 5, 3) := by decide +kernel
theorem dX6_wins__20 : decode cX6_wins_ 20 = .ok (.iconst (-1), 1) := by decide +kernel
theorem dX6_wins__21 : decode cX6_wins_ 21 = .ok (.ireturn, 1) := by decide +kernel
theorem dX6_wins__22 : decode cX6_wins_ 22 = .ok (.iconst 0, 1) := by decide +kernel
theorem dX6_wins__23 : decode cX6_wins_ 23 = .ok (.istore_n 3, 1) := by decide +kernel
theorem dX6_wins__24 : decode cX6_wins_ 24 = .ok (.iload_n 3, 1) := by decide +kernel
theorem dX6_wins__25 : decode cX6_wins_ 25 = .ok (.bipush 55, 2) := by decide +kernel
theorem dX6_wins__27 : decode cX6_wins_ 27 = .ok (.if_icmp .ge 21, 3) := by decide +kernel
theorem dX6_wins__30 : decode cX6_wins_ 30 = .ok (.aload_n 0, 1) := by decide +kernel
theorem dX6_wins__31 : decode cX6_wins_ 31 = .ok (.getfield 19, 3) := by decide +kernel
theorem dX6_wins__34 : decode cX6_wins_ 34 = .ok (.iload_n 3, 1) := by decide +kernel
theorem dX6_wins__35 : decode cX6_wins_ 35 = .ok (.aload_n 0, 1) := by decide +kernel
theorem dX6_wins__36 : decode cX6_wins_ 36 = .ok (.getfield 9, 3) := by decide +kernel
theorem dX6_wins__39 : decode cX6_wins_ 39 = .ok (.iload_n 3, 1) := by decide +kernel
theorem dX6_wins__40 : decode cX6_wins_ 40 = .ok (.iaload, 1) := by decide +kernel
theorem dX6_wins__41 : decode cX6_wins_ 41 = .ok (.iastore, 1) := by decide +kernel
theorem dX6_wins__42 : decode cX6_wins_ 42 = .ok (.iinc 3 1, 3) := by decide +kernel
theorem dX6_wins__45 : decode cX6_wins_ 45 = .ok (.goto (-21), 3) := by decide +kernel
theorem dX6_wins__48 : decode cX6_wins_ 48 = .ok (.iconst 0, 1) := by decide +kernel
theorem dX6_wins__49 : decode cX6_wins_ 49 = .ok (.istore_n 3, 1) := by decide +kernel
theorem dX6_wins__50 : decode cX6_wins_ 50 = .ok (.iconst 0, 1) := by decide +kernel
theorem dX6_wins__51 : decode cX6_wins_ 51 = .ok (.istore 4, 2) := by decide +kernel
theorem dX6_wins__53 : decode cX6_wins_ 53 = .ok (.iload 4, 2) := by decide +kernel
theorem dX6_wins__55 : decode cX6_wins_ 55 = .ok (.iload_n 2, 1) := by decide +kernel
theorem dX6_wins__56 : decode cX6_wins_ 56 = .ok (.if_icmp .ge 52, 3) := by decide +kernel
theorem dX6_wins__59 : decode cX6_wins_ 59 = .ok (.aload_n 0, 1) := by decide +kernel
theorem dX6_wins__60 : decode cX6_wins_ 60 = .ok (.invokevirtual 168, 3) := by decide +kernel
theorem dX6_wins__63 : decode cX6_wins_ 63 = .ok (.aload_n 0, 1) := by decide +kernel
theorem dX6_wins__64 : decode cX6_wins_ 64 = .ok (.invokevirtual 192, 3) := by decide +kernel
theorem dX6_wins__67 : decode cX6_wins_ 67 = .ok (.aload_n 0, 1) := by decide +kernel
theorem dX6_wins__68 : decode cX6_wins_ 68 = .ok (.invokevirtual 180, 3) := by decide +kernel
theorem dX6_wins__71 : decode cX6_wins_ 71 = .ok (.istore 5, 2) := by decide +kernel
theorem dX6_wins__73 : decode cX6_wins_ 73 = .ok (.iload_n 3, 1) := by decide +kernel
theorem dX6_wins__74 : decode cX6_wins_ 74 = .ok (.aload_n 0, 1) := by decide +kernel
theorem dX6_wins__75 : decode cX6_wins_ 75 = .ok (.aload_n 0, 1) := by decide +kernel
theorem dX6_wins__76 : decode cX6_wins_ 76 = .ok (.getfield 46, 3) := by decide +kernel
theorem dX6_wins__79 : decode cX6_wins_ 79 = .ok (.iload_n 1, 1) := by decide +kernel
theorem dX6_wins__80 : decode cX6_wins_ 80 = .ok (.iaload, 1) := by decide +kernel
theorem dX6_wins__81 : decode cX6_wins_ 81 = .ok (.iload 5, 2) := by decide +kernel
theorem dX6_wins__83 : decode cX6_wins_ 83 = .ok (.aload_n 0, 1) := by decide +kernel
theorem dX6_wins__84 : decode cX6_wins_ 84 = .ok (.iload 5, 2) := by decide +kernel
theorem dX6_wins__86 : decode cX6_wins_ 86 = .ok (.invokevirtual 183, 3) := by decide +kernel
theorem dX6_wins__89 : decode cX6_wins_ 89 = .ok (.invokevirtual 186, 3) := by decide +kernel
theorem dX6_wins__92 : decode cX6_wins_ 92 = .ok (.ifCond .eq 7, 3) := by decide +kernel
theorem dX6_wins__95 : decode cX6_wins_ 95 = .ok (.iconst 1, 1) := by decide +kernel
theorem dX6_wins__96 : decode cX6_wins_ 96 = .ok (.goto 4, 3) := by decide +kernel
theorem dX6_wins__99 : decode cX6_wins_ 99 = .ok (.iconst 0, 1) := by decide +kernel
theorem dX6_wins__100 : decode cX6_wins_ 100 = .ok (.iadd, 1) := by decide +kernel
theorem dX6_wins__101 : decode cX6_wins_ 101 = .ok (.istore_n 3, 1) := by decide +kernel
theorem dX6_wins__102 : decode cX6_wins_ 102 = .ok (.iinc 4 1, 3) := by decide +kernel
theorem dX6_wins__105 : decode cX6_wins_ 105 = .ok (.goto (-52), 3) := by decide +kernel
theorem dX6_wins__108 : decode cX6_wins_ 108 = .ok (.iconst 0, 1) := by decide +kernel
theorem dX6_wins__109 : decode cX6_wins_ 109 = .ok (.istore 4, 2) := by decide +kernel
theorem dX6_wins__111 : decode cX6_wins_ 111 = .ok (.iload 4, 2) := by decide +kernel
theorem dX6_wins__113 : decode cX6_wins_ 113 = .ok (.bipush 55, 2) := by decide +kernel
theorem dX6_wins__115 : decode cX6_wins_ 115 = .ok (.if_icmp .ge 23, 3) := by decide +kernel
theorem dX6_wins__118 : decode cX6_wins_ 118 = .ok (.aload_n 0, 1) := by decide +kernel
theorem dX6_wins__119 : decode cX6_wins_ 119 = .ok (.getfield 9, 3) := by decide +kernel
theorem dX6_wins__122 : decode cX6_wins_ 122 = .ok (.iload 4, 2) := by decide +kernel
theorem dX6_wins__124 : decode cX6_wins_ 124 = .ok (.aload_n 0, 1) := by decide +kernel
theorem dX6_wins__125 : decode cX6_wins_ 125 = .ok (.getfield 19, 3) := by decide +kernel
theorem dX6_wins__128 : decode cX6_wins_ 128 = .ok (.iload 4, 2) := by decide +kernel
theorem dX6_wins__130 : decode cX6_wins_ 130 = .ok (.iaload, 1) := by decide +kernel
theorem dX6_wins__131 : decode cX6_wins_ 131 = .ok (.iastore, 1) := by decide +kernel
theorem dX6_wins__132 : decode cX6_wins_ 132 = .ok (.iinc 4 1, 3) := by decide +kernel
theorem dX6_wins__135 : decode cX6_wins_ 135 = .ok (.goto (-24), 3) := by decide +kernel
theorem dX6_wins__138 : decode cX6_wins_ 138 = .ok (.iload_n 3, 1) := by decide +kernel
theorem dX6_wins__139 : decode cX6_wins_ 139 = .ok (.ireturn, 1) := by decide +kernel
set_option maxRecDepth 20000 in
theorem ggX6_takesRow_X6_wrongRow : GoodIn wsX6_takesRow wsX6_wrongRow := goodIn_r _ [10, 11, 12, 13, 14, 9, 15, 16, 17, 18, 19, 20, 21, 22, 23, 24, 25, 26, 27, 28, 29, 30, 31, 32, 33, 34, 35, 36, 37, 38, 39, 40] (by decide +kernel) (by decide +kernel)
set_option maxRecDepth 20000 in
theorem gX6_takesRow_X6_wrongRow : GoodIn wsX6_takesRow (wsV RX6 107 RX6 yX6_wrongRow wsX6_wrongRow) := goodIn_app (goodIn_of _ (by decide +kernel)) ggX6_takesRow_X6_wrongRow
set_option maxRecDepth 20000 in
theorem ggX6_takesRow_X6_isIn : GoodIn wsX6_takesRow wsX6_isIn := goodIn_r _ [19] (by decide +kernel) (by decide +kernel)
set_option maxRecDepth 20000 in
theorem gX6_takesRow_X6_isIn : GoodIn wsX6_takesRow (va_wsS RX6 56 yX6_isIn wsX6_isIn) := goodIn_app (goodIn_of _ (by decide +kernel)) ggX6_takesRow_X6_isIn
theorem dX6_takesRow_0 : decode cX6_takesRow 0 = .ok (.aload_n 0, 1) := by decide +kernel
theorem dX6_takesRow_1 : decode cX6_takesRow 1 = .ok (.iload_n 1, 1) := by decide +kernel
theorem dX6_takesRow_2 : decode cX6_takesRow 2 = .ok (.iconst (-1), 1) := by decide +kernel
theorem dX6_takesRow_3 : decode cX6_takesRow 3 = .ok (.invokevirtual 107, 3) := by decide +kernel
theorem dX6_takesRow_6 : decode cX6_takesRow 6 = .ok (.istore_n 2, 1) := by decide +kernel
theorem dX6_takesRow_7 : decode cX6_takesRow 7 = .ok (.iload_n 2, 1) := by decide +kernel
theorem dX6_takesRow_8 : decode cX6_takesRow 8 = .ok (.ifCond .eq 5, 3) := by decide +kernel
theorem dX6_takesRow_11 : decode cX6_takesRow 11 = .ok (.iload_n 2, 1) := by decide +kernel
theorem dX6_takesRow_12 : decode cX6_takesRow 12 = .ok (.ireturn, 1) := by decide +kernel
theorem dX6_takesRow_13 : decode cX6_takesRow 13 = .ok (.aload_n 0, 1) := by decide +kernel
theorem dX6_takesRow_14 : decode cX6_takesRow 14 = .ok (.getfield 28, 3) := by decide +kernel
theorem dX6_takesRow_17 : decode cX6_takesRow 17 = .ok (.iload_n 1, 1) := by decide +kernel
theorem dX6_takesRow_18 : decode cX6_takesRow 18 = .ok (.iaload, 1) := by decide +kernel
theorem dX6_takesRow_19 : decode cX6_takesRow 19 = .ok (.ifCond .ne 6, 3) := by decide +kernel
theorem dX6_takesRow_22 : decode cX6_takesRow 22 = .ok (.bipush (-13), 2) := by decide +kernel
theorem dX6_takesRow_24 : decode cX6_takesRow 24 = .ok (.ireturn, 1) := by decide +kernel
theorem dX6_takesRow_25 : decode cX6_takesRow 25 = .ok (.iconst 0, 1) := by decide +kernel
theorem dX6_takesRow_26 : decode cX6_takesRow 26 = .ok (.istore_n 3, 1) := by decide +kernel
theorem dX6_takesRow_27 : decode cX6_takesRow 27 = .ok (.iload_n 3, 1) := by decide +kernel
theorem dX6_takesRow_28 : decode cX6_takesRow 28 = .ok (.aload_n 0, 1) := by decide +kernel
theorem dX6_takesRow_29 : decode cX6_takesRow 29 = .ok (.getfield 28, 3) := by decide +kernel
theorem dX6_takesRow_32 : decode cX6_takesRow 32 = .ok (.iload_n 1, 1) := by decide +kernel
theorem dX6_takesRow_33 : decode cX6_takesRow 33 = .ok (.iaload, 1) := by decide +kernel
theorem dX6_takesRow_34 : decode cX6_takesRow 34 = .ok (.if_icmp .ge 50, 3) := by decide +kernel
theorem dX6_takesRow_37 : decode cX6_takesRow 37 = .ok (.aload_n 0, 1) := by decide +kernel
theorem dX6_takesRow_38 : decode cX6_takesRow 38 = .ok (.getfield 46, 3) := by decide +kernel
theorem dX6_takesRow_41 : decode cX6_takesRow 41 = .ok (.iload_n 3, 1) := by decide +kernel
theorem dX6_takesRow_42 : decode cX6_takesRow 42 = .ok (.aload_n 0, 1) := by decide +kernel
theorem dX6_takesRow_43 : decode cX6_takesRow 43 = .ok (.getfield 31, 3) := by decide +kernel
theorem dX6_takesRow_46 : decode cX6_takesRow 46 = .ok (.bipush 100, 2) := by decide +kernel
theorem dX6_takesRow_48 : decode cX6_takesRow 48 = .ok (.iload_n 1, 1) := by decide +kernel
theorem dX6_takesRow_49 : decode cX6_takesRow 49 = .ok (.imul, 1) := by decide +kernel
theorem dX6_takesRow_50 : decode cX6_takesRow 50 = .ok (.iload_n 3, 1) := by decide +kernel
theorem dX6_takesRow_51 : decode cX6_takesRow 51 = .ok (.iadd, 1) := by decide +kernel
theorem dX6_takesRow_52 : decode cX6_takesRow 52 = .ok (.iaload, 1) := by decide +kernel
theorem dX6_takesRow_53 : decode cX6_takesRow 53 = .ok (.iastore, 1) := by decide +kernel
theorem dX6_takesRow_54 : decode cX6_takesRow 54 = .ok (.aload_n 0, 1) := by decide +kernel
theorem dX6_takesRow_55 : decode cX6_takesRow 55 = .ok (.getfield 46, 3) := by decide +kernel
theorem dX6_takesRow_58 : decode cX6_takesRow 58 = .ok (.iload_n 3, 1) := by decide +kernel
theorem dX6_takesRow_59 : decode cX6_takesRow 59 = .ok (.iaload, 1) := by decide +kernel
theorem dX6_takesRow_60 : decode cX6_takesRow 60 = .ok (.i2l, 1) := by decide +kernel
theorem dX6_takesRow_61 : decode cX6_takesRow 61 = .ok (.lconst 0, 1) := by decide +kernel
theorem dX6_takesRow_62 : decode cX6_takesRow 62 = .ok (.aload_n 0, 1) := by decide +kernel
theorem dX6_takesRow_63 : decode cX6_takesRow 63 = .ok (.getfield 9, 3) := by decide +kernel
theorem dX6_takesRow_66 : decode cX6_takesRow 66 = .ok (.iconst 2, 1) := by decide +kernel
theorem dX6_takesRow_67 : decode cX6_takesRow 67 = .ok (.iaload, 1) := by decide +kernel
theorem dX6_takesRow_68 : decode cX6_takesRow 68 = .ok (.i2l, 1) := by decide +kernel
theorem dX6_takesRow_69 : decode cX6_takesRow 69 = .ok (.invokestatic 56, 3) := by decide +kernel
theorem dX6_takesRow_72 : decode cX6_takesRow 72 = .ok (.ifCond .ne 6, 3) := by decide +kernel
theorem dX6_takesRow_75 : decode cX6_takesRow 75 = .ok (.bipush (-13), 2) := by decide +kernel
theorem dX6_takesRow_77 : decode cX6_takesRow 77 = .ok (.ireturn, 1) := by decide +kernel
theorem dX6_takesRow_78 : decode cX6_takesRow 78 = .ok (.iinc 3 1, 3) := by decide +kernel
theorem dX6_takesRow_81 : decode cX6_takesRow 81 = .ok (.goto (-54), 3) := by decide +kernel
theorem dX6_takesRow_84 : decode cX6_takesRow 84 = .ok (.aload_n 0, 1) := by decide +kernel
theorem dX6_takesRow_85 : decode cX6_takesRow 85 = .ok (.aload_n 0, 1) := by decide +kernel
theorem dX6_takesRow_86 : decode cX6_takesRow 86 = .ok (.getfield 28, 3) := by decide +kernel
theorem dX6_takesRow_89 : decode cX6_takesRow 89 = .ok (.iload_n 1, 1) := by decide +kernel
theorem dX6_takesRow_90 : decode cX6_takesRow 90 = .ok (.iaload, 1) := by decide +kernel
theorem dX6_takesRow_91 : decode cX6_takesRow 91 = .ok (.putfield 171, 3) := by decide +kernel
theorem dX6_takesRow_94 : decode cX6_takesRow 94 = .ok (.iconst 0, 1) := by decide +kernel
theorem dX6_takesRow_95 : decode cX6_takesRow 95 = .ok (.ireturn, 1) := by decide +kernel
set_option maxRecDepth 20000 in
theorem ggX6_mean_X6_isShelf : GoodIn wsX6_mean wsX6_isShelf := goodIn_r _ [5, 6, 7, 8, 4, 9] (by decide +kernel) (by decide +kernel)
set_option maxRecDepth 20000 in
theorem gX6_mean_X6_isShelf : GoodIn wsX6_mean (va_wsS RX6 104 yX6_isShelf wsX6_isShelf) := goodIn_app (goodIn_of _ (by decide +kernel)) ggX6_mean_X6_isShelf
set_option maxRecDepth 20000 in
theorem ggX6_mean_X6_isIn : GoodIn wsX6_mean wsX6_isIn := goodIn_r _ [9] (by decide +kernel) (by decide +kernel)
set_option maxRecDepth 20000 in
theorem gX6_mean_X6_isIn : GoodIn wsX6_mean (va_wsS RX6 56 yX6_isIn wsX6_isIn) := goodIn_app (goodIn_of _ (by decide +kernel)) ggX6_mean_X6_isIn
set_option maxRecDepth 20000 in
theorem ggX6_mean_X6_takesRow : GoodIn wsX6_mean wsX6_takesRow := goodIn_r _ [13, 14, 15, 16, 17, 1, 18, 19, 20, 4, 21, 22, 23, 2, 3, 5, 6, 7, 8, 9, 38, 39, 40, 41, 42, 43, 44, 45, 46, 47, 48, 49, 50, 51, 52, 53, 54, 55, 56, 57, 58] (by decide +kernel) (by decide +kernel)
set_option maxRecDepth 20000 in
theorem gX6_mean_X6_takesRow : GoodIn wsX6_mean (wsV RX6 210 RX6 yX6_takesRow wsX6_takesRow) := goodIn_app (goodIn_of _ (by decide +kernel)) ggX6_mean_X6_takesRow
set_option maxRecDepth 20000 in
theorem ggX6_mean_X6_sumOf : GoodIn wsX6_mean wsX6_sumOf := goodIn_r _ [27, 1, 15, 38, 39, 40, 41, 42, 43, 44, 45, 46, 47, 48, 49, 50, 51, 52, 53, 54, 55, 56, 57, 58] (by decide +kernel) (by decide +kernel)
set_option maxRecDepth 20000 in
theorem gX6_mean_X6_sumOf : GoodIn wsX6_mean (wsV RX6 180 RX6 yX6_sumOf wsX6_sumOf) := goodIn_app (goodIn_of _ (by decide +kernel)) ggX6_mean_X6_sumOf
set_option maxRecDepth 20000 in
theorem ggX6_mean_X6_partOf : GoodIn wsX6_mean wsX6_partOf := goodIn_r _ [30, 31, 32, 4, 33] (by decide +kernel) (by decide +kernel)
set_option maxRecDepth 20000 in
theorem gX6_mean_X6_partOf : GoodIn wsX6_mean (va_wsS RX6 202 yX6_partOf wsX6_partOf) := goodIn_app (goodIn_of _ (by decide +kernel)) ggX6_mean_X6_partOf
set_option maxRecDepth 20000 in
theorem ggX6_mean_X6_targetOf : GoodIn wsX6_mean wsX6_targetOf := goodIn_r _ [37, 17, 1, 24, 25, 26, 4, 27, 15, 28, 29, 30, 31, 32, 33, 38, 39, 40, 41, 42, 43, 44, 45, 46, 47, 48, 49, 50, 51, 52, 53, 54, 55, 56, 57, 58] (by decide +kernel) (by decide +kernel)
set_option maxRecDepth 20000 in
theorem gX6_mean_X6_targetOf : GoodIn wsX6_mean (wsV RX6 206 RX6 yX6_targetOf wsX6_targetOf) := goodIn_app (goodIn_of _ (by decide +kernel)) ggX6_mean_X6_targetOf
theorem dX6_mean_0 : decode cX6_mean 0 = .ok (.iload_n 1, 1) := by decide +kernel
theorem dX6_mean_1 : decode cX6_mean 1 = .ok (.invokestatic 104, 3) := by decide +kernel
theorem dX6_mean_4 : decode cX6_mean 4 = .ok (.ifCond .eq 23, 3) := by decide +kernel
theorem dX6_mean_7 : decode cX6_mean 7 = .ok (.iload_n 2, 1) := by decide +kernel
theorem dX6_mean_8 : decode cX6_mean 8 = .ok (.i2l, 1) := by decide +kernel
theorem dX6_mean_9 : decode cX6_mean 9 = .ok (.lconst 0, 1) := by decide +kernel
theorem dX6_mean_10 : decode cX6_mean 10 = .ok (.lconst 1, 1) := by decide +kernel
theorem dX6_mean_11 : decode cX6_mean 11 = .ok (.invokestatic 56, 3) := by decide +kernel
theorem dX6_mean_14 : decode cX6_mean 14 = .ok (.ifCond .eq 13, 3) := by decide +kernel
theorem dX6_mean_17 : decode cX6_mean 17 = .ok (.iload_n 3, 1) := by decide +kernel
theorem dX6_mean_18 : decode cX6_mean 18 = .ok (.i2l, 1) := by decide +kernel
theorem dX6_mean_19 : decode cX6_mean 19 = .ok (.lconst 0, 1) := by decide +kernel
theorem dX6_mean_20 : decode cX6_mean 20 = .ok (.lconst 1, 1) := by decide +kernel
theorem dX6_mean_21 : decode cX6_mean 21 = .ok (.invokestatic 56, 3) := by decide +kernel
theorem dX6_mean_24 : decode cX6_mean 24 = .ok (.ifCond .ne 5, 3) := by decide +kernel
theorem dX6_mean_27 : decode cX6_mean 27 = .ok (.iconst (-1), 1) := by decide +kernel
theorem dX6_mean_28 : decode cX6_mean 28 = .ok (.ireturn, 1) := by decide +kernel
theorem dX6_mean_29 : decode cX6_mean 29 = .ok (.aload_n 0, 1) := by decide +kernel
theorem dX6_mean_30 : decode cX6_mean 30 = .ok (.iload_n 1, 1) := by decide +kernel
theorem dX6_mean_31 : decode cX6_mean 31 = .ok (.invokevirtual 210, 3) := by decide +kernel
theorem dX6_mean_34 : decode cX6_mean 34 = .ok (.istore 4, 2) := by decide +kernel
theorem dX6_mean_36 : decode cX6_mean 36 = .ok (.iload 4, 2) := by decide +kernel
theorem dX6_mean_38 : decode cX6_mean 38 = .ok (.ifCond .eq 6, 3) := by decide +kernel
theorem dX6_mean_41 : decode cX6_mean 41 = .ok (.iload 4, 2) := by decide +kernel
theorem dX6_mean_43 : decode cX6_mean 43 = .ok (.ireturn, 1) := by decide +kernel
theorem dX6_mean_44 : decode cX6_mean 44 = .ok (.iload_n 2, 1) := by decide +kernel
theorem dX6_mean_45 : decode cX6_mean 45 = .ok (.ifCond .ne 20, 3) := by decide +kernel
theorem dX6_mean_48 : decode cX6_mean 48 = .ok (.aload_n 0, 1) := by decide +kernel
theorem dX6_mean_49 : decode cX6_mean 49 = .ok (.invokevirtual 180, 3) := by decide +kernel
theorem dX6_mean_52 : decode cX6_mean 52 = .ok (.i2l, 1) := by decide +kernel
theorem dX6_mean_53 : decode cX6_mean 53 = .ok (.aload_n 0, 1) := by decide +kernel
theorem dX6_mean_54 : decode cX6_mean 54 = .ok (.getfield 171, 3) := by decide +kernel
theorem dX6_mean_57 : decode cX6_mean 57 = .ok (.i2l, 1) := by decide +kernel
theorem dX6_mean_58 : decode cX6_mean 58 = .ok (.iload_n 3, 1) := by decide +kernel
theorem dX6_mean_59 : decode cX6_mean 59 = .ok (.invokestatic 202, 3) := by decide +kernel
theorem dX6_mean_62 : decode cX6_mean 62 = .ok (.goto 8, 3) := by decide +kernel
theorem dX6_mean_65 : decode cX6_mean 65 = .ok (.aload_n 0, 1) := by decide +kernel
theorem dX6_mean_66 : decode cX6_mean 66 = .ok (.iload_n 3, 1) := by decide +kernel
theorem dX6_mean_67 : decode cX6_mean 67 = .ok (.invokevirtual 206, 3) := by decide +kernel
theorem dX6_mean_70 : decode cX6_mean 70 = .ok (.l2i, 1) := by decide +kernel
theorem dX6_mean_71 : decode cX6_mean 71 = .ok (.ireturn, 1) := by decide +kernel
set_option maxRecDepth 20000 in
theorem ggX6_winners_X6_isShelf : GoodIn wsX6_winners wsX6_isShelf := goodIn_r _ [4, 5, 6, 7, 3, 8] (by decide +kernel) (by decide +kernel)
set_option maxRecDepth 20000 in
theorem gX6_winners_X6_isShelf : GoodIn wsX6_winners (va_wsS RX6 104 yX6_isShelf wsX6_isShelf) := goodIn_app (goodIn_of _ (by decide +kernel)) ggX6_winners_X6_isShelf
set_option maxRecDepth 20000 in
theorem ggX6_winners_X6_isIn : GoodIn wsX6_winners wsX6_isIn := goodIn_r _ [8] (by decide +kernel) (by decide +kernel)
set_option maxRecDepth 20000 in
theorem gX6_winners_X6_isIn : GoodIn wsX6_winners (va_wsS RX6 56 yX6_isIn wsX6_isIn) := goodIn_app (goodIn_of _ (by decide +kernel)) ggX6_winners_X6_isIn
set_option maxRecDepth 20000 in
theorem ggX6_winners_X6_takesRow : GoodIn wsX6_winners wsX6_takesRow := goodIn_r _ [12, 13, 14, 15, 16, 17, 18, 19, 20, 3, 21, 22, 23, 1, 2, 4, 5, 6, 7, 8, 47, 48, 49, 50, 51, 52, 53, 54, 55, 56, 57, 58, 59, 60, 61, 62, 63, 64, 65, 66, 67] (by decide +kernel) (by decide +kernel)
set_option maxRecDepth 20000 in
theorem gX6_winners_X6_takesRow : GoodIn wsX6_winners (wsV RX6 210 RX6 yX6_takesRow wsX6_takesRow) := goodIn_app (goodIn_of _ (by decide +kernel)) ggX6_winners_X6_takesRow
set_option maxRecDepth 20000 in
theorem ggX6_winners_X6_winnersOf : GoodIn wsX6_winners wsX6_winnersOf := goodIn_r _ [27, 17, 14, 28, 29, 30, 3, 31, 32, 33, 34, 35, 16, 36, 37, 38, 39, 40, 41, 42, 43, 44, 45, 46, 47, 48, 49, 50, 51, 52, 53, 54, 55, 56, 57, 58, 59, 60, 61, 62, 63, 64, 65, 66, 67] (by decide +kernel) (by decide +kernel)
set_option maxRecDepth 20000 in
theorem gX6_winners_X6_winnersOf : GoodIn wsX6_winners (wsV RX6 195 RX6 yX6_winnersOf wsX6_winnersOf) := goodIn_app (goodIn_of _ (by decide +kernel)) ggX6_winners_X6_winnersOf
theorem dX6_winners_0 : decode cX6_winners 0 = .ok (.iload_n 1, 1) := by decide +kernel
theorem dX6_winners_1 : decode cX6_winners 1 = .ok (.invokestatic 104, 3) := by decide +kernel
theorem dX6_winners_4 : decode cX6_winners 4 = .ok (.ifCond .eq 13, 3) := by decide +kernel
theorem dX6_winners_7 : decode cX6_winners 7 = .ok (.iload_n 2, 1) := by decide +kernel
theorem dX6_winners_8 : decode cX6_winners 8 = .ok (.i2l, 1) := by decide +kernel
theorem dX6_winners_9 : decode cX6_winners 9 = .ok (.lconst 0, 1) := by decide +kernel
theorem dX6_winners_10 : decode cX6_winners 10 = .ok (.lconst 1, 1) := by decide +kernel
theorem dX6_winners_11 : decode cX6_winners 11 = .ok (.invokestatic 56, 3) := by decide +kernel
theorem dX6_winners_14 : decode cX6_winners 14 = .ok (.ifCond .ne 5, 3) := by decide +kernel
theorem dX6_winners_17 : decode cX6_winners 17 = .ok (.iconst (-1), 1) := by decide +kernel
theorem dX6_winners_18 : decode cX6_winners 18 = .ok (.ireturn, 1) := by decide +kernel
theorem dX6_winners_19 : decode cX6_winners 19 = .ok (.aload_n 0, 1) := by decide +kernel
theorem dX6_winners_20 : decode cX6_winners 20 = .ok (.iload_n 1, 1) := by decide +kernel
theorem dX6_winners_21 : decode cX6_winners 21 = .ok (.invokevirtual 210, 3) := by decide +kernel
theorem dX6_winners_24 : decode cX6_winners 24 = .ok (.istore_n 3, 1) := by decide +kernel
theorem dX6_winners_25 : decode cX6_winners 25 = .ok (.iload_n 3, 1) := by decide +kernel
theorem dX6_winners_26 : decode cX6_winners 26 = .ok (.ifCond .eq 7, 3) := by decide +kernel
theorem dX6_winners_29 : decode cX6_winners 29 = .ok (.iload_n 3, 1) := by decide +kernel
theorem dX6_winners_30 : decode cX6_winners 30 = .ok (.goto 8, 3) := by decide +kernel
theorem dX6_winners_33 : decode cX6_winners 33 = .ok (.aload_n 0, 1) := by decide +kernel
theorem dX6_winners_34 : decode cX6_winners 34 = .ok (.iload_n 2, 1) := by decide +kernel
theorem dX6_winners_35 : decode cX6_winners 35 = .ok (.invokevirtual 195, 3) := by decide +kernel
theorem dX6_winners_38 : decode cX6_winners 38 = .ok (.ireturn, 1) := by decide +kernel
set_option maxRecDepth 20000 in
theorem ggX6_best_X6_takesRow : GoodIn wsX6_best wsX6_takesRow := goodIn_r _ [7, 8, 9, 10, 1, 2, 11, 12, 13, 6, 14, 15, 16, 17, 18, 19, 20, 21, 22, 23, 35, 36, 37, 38, 39, 40, 41, 42, 43, 44, 45, 46, 47, 48, 49, 50, 51, 52, 53, 54, 55] (by decide +kernel) (by decide +kernel)
set_option maxRecDepth 20000 in
theorem gX6_best_X6_takesRow : GoodIn wsX6_best (wsV RX6 210 RX6 yX6_takesRow wsX6_takesRow) := goodIn_app (goodIn_of _ (by decide +kernel)) ggX6_best_X6_takesRow
set_option maxRecDepth 20000 in
theorem ggX6_best_X6_sumOf : GoodIn wsX6_best wsX6_sumOf := goodIn_r _ [27, 2, 9, 35, 36, 37, 38, 39, 40, 41, 42, 43, 44, 45, 46, 47, 48, 49, 50, 51, 52, 53, 54, 55] (by decide +kernel) (by decide +kernel)
set_option maxRecDepth 20000 in
theorem gX6_best_X6_sumOf : GoodIn wsX6_best (wsV RX6 180 RX6 yX6_sumOf wsX6_sumOf) := goodIn_app (goodIn_of _ (by decide +kernel)) ggX6_best_X6_sumOf
set_option maxRecDepth 20000 in
theorem ggX6_best_X6_farOf : GoodIn wsX6_best wsX6_farOf := goodIn_r _ [31, 1, 35, 36, 37, 38, 39, 40, 41, 42, 43, 44, 45, 46, 47, 48, 49, 50, 51, 52, 53, 54, 55] (by decide +kernel) (by decide +kernel)
set_option maxRecDepth 20000 in
theorem gX6_best_X6_farOf : GoodIn wsX6_best (wsV RX6 174 RX6 yX6_farOf wsX6_farOf) := goodIn_app (goodIn_of _ (by decide +kernel)) ggX6_best_X6_farOf
set_option maxRecDepth 20000 in
theorem ggX6_best_X6_amount : GoodIn wsX6_best wsX6_amount := goodIn_r _ [34] (by decide +kernel) (by decide +kernel)
set_option maxRecDepth 20000 in
theorem gX6_best_X6_amount : GoodIn wsX6_best (va_wsS RX6 177 yX6_amount wsX6_amount) := goodIn_app (goodIn_of _ (by decide +kernel)) ggX6_best_X6_amount
theorem dX6_best_0 : decode cX6_best 0 = .ok (.aload_n 0, 1) := by decide +kernel
theorem dX6_best_1 : decode cX6_best 1 = .ok (.iload_n 1, 1) := by decide +kernel
theorem dX6_best_2 : decode cX6_best 2 = .ok (.invokevirtual 210, 3) := by decide +kernel
theorem dX6_best_5 : decode cX6_best 5 = .ok (.istore_n 2, 1) := by decide +kernel
theorem dX6_best_6 : decode cX6_best 6 = .ok (.iload_n 2, 1) := by decide +kernel
theorem dX6_best_7 : decode cX6_best 7 = .ok (.ifCond .eq 5, 3) := by decide +kernel
theorem dX6_best_10 : decode cX6_best 10 = .ok (.iload_n 2, 1) := by decide +kernel
theorem dX6_best_11 : decode cX6_best 11 = .ok (.ireturn, 1) := by decide +kernel
theorem dX6_best_12 : decode cX6_best 12 = .ok (.aload_n 0, 1) := by decide +kernel
theorem dX6_best_13 : decode cX6_best 13 = .ok (.invokevirtual 180, 3) := by decide +kernel
theorem dX6_best_16 : decode cX6_best 16 = .ok (.istore_n 3, 1) := by decide +kernel
theorem dX6_best_17 : decode cX6_best 17 = .ok (.bipush (-4), 2) := by decide +kernel
theorem dX6_best_19 : decode cX6_best 19 = .ok (.istore 4, 2) := by decide +kernel
theorem dX6_best_21 : decode cX6_best 21 = .ok (.iconst 0, 1) := by decide +kernel
theorem dX6_best_22 : decode cX6_best 22 = .ok (.istore 5, 2) := by decide +kernel
theorem dX6_best_24 : decode cX6_best 24 = .ok (.iconst 0, 1) := by decide +kernel
theorem dX6_best_25 : decode cX6_best 25 = .ok (.istore 6, 2) := by decide +kernel
theorem dX6_best_27 : decode cX6_best 27 = .ok (.iload 6, 2) := by decide +kernel
theorem dX6_best_29 : decode cX6_best 29 = .ok (.aload_n 0, 1) := by decide +kernel
theorem dX6_best_30 : decode cX6_best 30 = .ok (.getfield 9, 3) := by decide +kernel
theorem dX6_best_33 : decode cX6_best 33 = .ok (.iconst 2, 1) := by decide +kernel
theorem dX6_best_34 : decode cX6_best 34 = .ok (.iaload, 1) := by decide +kernel
theorem dX6_best_35 : decode cX6_best 35 = .ok (.if_icmp .gt 80, 3) := by decide +kernel
theorem dX6_best_38 : decode cX6_best 38 = .ok (.aload_n 0, 1) := by decide +kernel
theorem dX6_best_39 : decode cX6_best 39 = .ok (.iload 6, 2) := by decide +kernel
theorem dX6_best_41 : decode cX6_best 41 = .ok (.iload_n 3, 1) := by decide +kernel
theorem dX6_best_42 : decode cX6_best 42 = .ok (.iload 6, 2) := by decide +kernel
theorem dX6_best_44 : decode cX6_best 44 = .ok (.iadd, 1) := by decide +kernel
theorem dX6_best_45 : decode cX6_best 45 = .ok (.aload_n 0, 1) := by decide +kernel
theorem dX6_best_46 : decode cX6_best 46 = .ok (.getfield 171, 3) := by decide +kernel
theorem dX6_best_49 : decode cX6_best 49 = .ok (.iconst 1, 1) := by decide +kernel
theorem dX6_best_50 : decode cX6_best 50 = .ok (.iadd, 1) := by decide +kernel
theorem dX6_best_51 : decode cX6_best 51 = .ok (.invokevirtual 174, 3) := by decide +kernel
theorem dX6_best_54 : decode cX6_best 54 = .ok (.istore 7, 2) := by decide +kernel
theorem dX6_best_56 : decode cX6_best 56 = .ok (.aload_n 0, 1) := by decide +kernel
theorem dX6_best_57 : decode cX6_best 57 = .ok (.getfield 9, 3) := by decide +kernel
theorem dX6_best_60 : decode cX6_best 60 = .ok (.iconst 3, 1) := by decide +kernel
theorem dX6_best_61 : decode cX6_best 61 = .ok (.iaload, 1) := by decide +kernel
theorem dX6_best_62 : decode cX6_best 62 = .ok (.iconst 1, 1) := by decide +kernel
theorem dX6_best_63 : decode cX6_best 63 = .ok (.if_icmp .ne 20, 3) := by decide +kernel
theorem dX6_best_66 : decode cX6_best 66 = .ok (.iload 7, 2) := by decide +kernel
theorem dX6_best_68 : decode cX6_best 68 = .ok (.ifCond .gt 8, 3) := by decide +kernel
theorem dX6_best_71 : decode cX6_best 71 = .ok (.iload 6, 2) := by decide +kernel
theorem dX6_best_73 : decode cX6_best 73 = .ok (.goto 5, 3) := by decide +kernel
theorem dX6_best_76 : decode cX6_best 76 = .ok (.iload 4, 2) := by decide +kernel
theorem dX6_best_78 : decode cX6_best 78 = .ok (.istore 4, 2) := by decide +kernel
theorem dX6_best_80 : decode cX6_best 80 = .ok (.goto 29, 3) := by decide +kernel
theorem dX6_best_83 : decode cX6_best 83 = .ok (.iload 4, 2) := by decide +kernel
theorem dX6_best_85 : decode cX6_best 85 = .ok (.ifCond .lt 13, 3) := by decide +kernel
theorem dX6_best_88 : decode cX6_best 88 = .ok (.iload 7, 2) := by decide +kernel
theorem dX6_best_90 : decode cX6_best 90 = .ok (.invokestatic 177, 3) := by decide +kernel
theorem dX6_best_93 : decode cX6_best 93 = .ok (.iload 5, 2) := by decide +kernel
theorem dX6_best_95 : decode cX6_best 95 = .ok (.if_icmp .ge 14, 3) := by decide +kernel
theorem dX6_best_98 : decode cX6_best 98 = .ok (.iload 6, 2) := by decide +kernel
theorem dX6_best_100 : decode cX6_best 100 = .ok (.istore 4, 2) := by decide +kernel
theorem dX6_best_102 : decode cX6_best 102 = .ok (.iload 7, 2) := by decide +kernel
theorem dX6_best_104 : decode cX6_best 104 = .ok (.invokestatic 177, 3) := by decide +kernel
theorem dX6_best_107 : decode cX6_best 107 = .ok (.istore 5, 2) := by decide +kernel
theorem dX6_best_109 : decode cX6_best 109 = .ok (.iinc 6 1, 3) := by decide +kernel
theorem dX6_best_112 : decode cX6_best 112 = .ok (.goto (-85), 3) := by decide +kernel
theorem dX6_best_115 : decode cX6_best 115 = .ok (.iload 4, 2) := by decide +kernel
theorem dX6_best_117 : decode cX6_best 117 = .ok (.ireturn, 1) := by decide +kernel
set_option maxRecDepth 20000 in
theorem ggX6_levelOf_X6_levelBy : GoodIn wsX6_levelOf wsX6_levelBy := goodIn_r _ [6, 1, 7, 8, 9, 5, 10, 11, 12, 13, 14, 15, 16, 17, 18, 19, 20, 21, 22, 23, 24, 25, 26, 27, 28, 29, 30, 31, 32, 33, 34, 35] (by decide +kernel) (by decide +kernel)
set_option maxRecDepth 20000 in
theorem gX6_levelOf_X6_levelBy : GoodIn wsX6_levelOf (wsV RX6 141 RX6 yX6_levelBy wsX6_levelBy) := goodIn_app (goodIn_of _ (by decide +kernel)) ggX6_levelOf_X6_levelBy
theorem dX6_levelOf_0 : decode cX6_levelOf 0 = .ok (.aload_n 0, 1) := by decide +kernel
theorem dX6_levelOf_1 : decode cX6_levelOf 1 = .ok (.iload_n 1, 1) := by decide +kernel
theorem dX6_levelOf_2 : decode cX6_levelOf 2 = .ok (.aload_n 0, 1) := by decide +kernel
theorem dX6_levelOf_3 : decode cX6_levelOf 3 = .ok (.getfield 9, 3) := by decide +kernel
theorem dX6_levelOf_6 : decode cX6_levelOf 6 = .ok (.iconst 0, 1) := by decide +kernel
theorem dX6_levelOf_7 : decode cX6_levelOf 7 = .ok (.iaload, 1) := by decide +kernel
theorem dX6_levelOf_8 : decode cX6_levelOf 8 = .ok (.aload_n 0, 1) := by decide +kernel
theorem dX6_levelOf_9 : decode cX6_levelOf 9 = .ok (.getfield 9, 3) := by decide +kernel
theorem dX6_levelOf_12 : decode cX6_levelOf 12 = .ok (.iconst 1, 1) := by decide +kernel
theorem dX6_levelOf_13 : decode cX6_levelOf 13 = .ok (.iaload, 1) := by decide +kernel
theorem dX6_levelOf_14 : decode cX6_levelOf 14 = .ok (.invokevirtual 141, 3) := by decide +kernel
theorem dX6_levelOf_17 : decode cX6_levelOf 17 = .ok (.ireturn, 1) := by decide +kernel
set_option maxRecDepth 20000 in
theorem ggX6_level_X6_isIn : GoodIn wsX6_level wsX6_isIn := goodIn_r _ [5] (by decide +kernel) (by decide +kernel)
set_option maxRecDepth 20000 in
theorem gX6_level_X6_isIn : GoodIn wsX6_level (va_wsS RX6 56 yX6_isIn wsX6_isIn) := goodIn_app (goodIn_of _ (by decide +kernel)) ggX6_level_X6_isIn
set_option maxRecDepth 20000 in
theorem ggX6_level_X6_levelOf : GoodIn wsX6_level wsX6_levelOf := goodIn_r _ [9, 10, 11, 12, 13, 4, 14, 15, 16, 17, 18, 19, 20, 21, 22, 23, 24, 25, 26, 27, 28, 29, 30, 31, 32, 33, 34, 35, 36, 37, 38, 39, 40, 41, 42, 43] (by decide +kernel) (by decide +kernel)
set_option maxRecDepth 20000 in
theorem gX6_level_X6_levelOf : GoodIn wsX6_level (wsV RX6 213 RX6 yX6_levelOf wsX6_levelOf) := goodIn_app (goodIn_of _ (by decide +kernel)) ggX6_level_X6_levelOf
theorem dX6_level_0 : decode cX6_level 0 = .ok (.iload_n 1, 1) := by decide +kernel
theorem dX6_level_1 : decode cX6_level 1 = .ok (.i2l, 1) := by decide +kernel
theorem dX6_level_2 : decode cX6_level 2 = .ok (.lconst 0, 1) := by decide +kernel
theorem dX6_level_3 : decode cX6_level 3 = .ok (.ldc2_w 131, 3) := by decide +kernel
theorem dX6_level_6 : decode cX6_level 6 = .ok (.invokestatic 56, 3) := by decide +kernel
theorem dX6_level_9 : decode cX6_level 9 = .ok (.ifCond .eq 11, 3) := by decide +kernel
theorem dX6_level_12 : decode cX6_level 12 = .ok (.aload_n 0, 1) := by decide +kernel
theorem dX6_level_13 : decode cX6_level 13 = .ok (.iload_n 1, 1) := by decide +kernel
theorem dX6_level_14 : decode cX6_level 14 = .ok (.invokevirtual 213, 3) := by decide +kernel
theorem dX6_level_17 : decode cX6_level 17 = .ok (.goto 4, 3) := by decide +kernel
theorem dX6_level_20 : decode cX6_level 20 = .ok (.iconst (-1), 1) := by decide +kernel
theorem dX6_level_21 : decode cX6_level 21 = .ok (.ireturn, 1) := by decide +kernel
set_option maxRecDepth 20000 in
theorem ggX6_stepsFor_X6_levelOf : GoodIn wsX6_stepsFor wsX6_levelOf := goodIn_r _ [5, 6, 7, 8, 9, 4, 10, 11, 12, 13, 14, 15, 16, 17, 18, 22, 23, 24, 25, 26, 27, 28, 29, 30, 31, 32, 33, 34, 35, 36, 37, 38, 39, 40, 41, 42] (by decide +kernel) (by decide +kernel)
set_option maxRecDepth 20000 in
theorem gX6_stepsFor_X6_levelOf : GoodIn wsX6_stepsFor (wsV RX6 213 RX6 yX6_levelOf wsX6_levelOf) := goodIn_app (goodIn_of _ (by decide +kernel)) ggX6_stepsFor_X6_levelOf
set_option maxRecDepth 20000 in
theorem ggX6_stepsFor_X6_amount : GoodIn wsX6_stepsFor wsX6_amount := goodIn_r _ [21] (by decide +kernel) (by decide +kernel)
set_option maxRecDepth 20000 in
theorem gX6_stepsFor_X6_amount : GoodIn wsX6_stepsFor (va_wsS RX6 177 yX6_amount wsX6_amount) := goodIn_app (goodIn_of _ (by decide +kernel)) ggX6_stepsFor_X6_amount
theorem dX6_stepsFor_0 : decode cX6_stepsFor 0 = .ok (.iconst 0, 1) := by decide +kernel
theorem dX6_stepsFor_1 : decode cX6_stepsFor 1 = .ok (.istore_n 2, 1) := by decide +kernel
theorem dX6_stepsFor_2 : decode cX6_stepsFor 2 = .ok (.iconst 1, 1) := by decide +kernel
theorem dX6_stepsFor_3 : decode cX6_stepsFor 3 = .ok (.istore_n 3, 1) := by decide +kernel
theorem dX6_stepsFor_4 : decode cX6_stepsFor 4 = .ok (.iload_n 3, 1) := by decide +kernel
theorem dX6_stepsFor_5 : decode cX6_stepsFor 5 = .ok (.bipush 10, 2) := by decide +kernel
theorem dX6_stepsFor_7 : decode cX6_stepsFor 7 = .ok (.if_icmp .ge 38, 3) := by decide +kernel
theorem dX6_stepsFor_10 : decode cX6_stepsFor 10 = .ok (.aload_n 0, 1) := by decide +kernel
theorem dX6_stepsFor_11 : decode cX6_stepsFor 11 = .ok (.iload_n 3, 1) := by decide +kernel
theorem dX6_stepsFor_12 : decode cX6_stepsFor 12 = .ok (.invokevirtual 213, 3) := by decide +kernel
theorem dX6_stepsFor_15 : decode cX6_stepsFor 15 = .ok (.iload_n 1, 1) := by decide +kernel
theorem dX6_stepsFor_16 : decode cX6_stepsFor 16 = .ok (.isub, 1) := by decide +kernel
theorem dX6_stepsFor_17 : decode cX6_stepsFor 17 = .ok (.invokestatic 177, 3) := by decide +kernel
theorem dX6_stepsFor_20 : decode cX6_stepsFor 20 = .ok (.aload_n 0, 1) := by decide +kernel
theorem dX6_stepsFor_21 : decode cX6_stepsFor 21 = .ok (.iload_n 2, 1) := by decide +kernel
theorem dX6_stepsFor_22 : decode cX6_stepsFor 22 = .ok (.invokevirtual 213, 3) := by decide +kernel
theorem dX6_stepsFor_25 : decode cX6_stepsFor 25 = .ok (.iload_n 1, 1) := by decide +kernel
theorem dX6_stepsFor_26 : decode cX6_stepsFor 26 = .ok (.isub, 1) := by decide +kernel
theorem dX6_stepsFor_27 : decode cX6_stepsFor 27 = .ok (.invokestatic 177, 3) := by decide +kernel
theorem dX6_stepsFor_30 : decode cX6_stepsFor 30 = .ok (.if_icmp .ge 7, 3) := by decide +kernel
theorem dX6_stepsFor_33 : decode cX6_stepsFor 33 = .ok (.iload_n 3, 1) := by decide +kernel
theorem dX6_stepsFor_34 : decode cX6_stepsFor 34 = .ok (.goto 4, 3) := by decide +kernel
theorem dX6_stepsFor_37 : decode cX6_stepsFor 37 = .ok (.iload_n 2, 1) := by decide +kernel
theorem dX6_stepsFor_38 : decode cX6_stepsFor 38 = .ok (.istore_n 2, 1) := by decide +kernel
theorem dX6_stepsFor_39 : decode cX6_stepsFor 39 = .ok (.iinc 3 1, 3) := by decide +kernel
theorem dX6_stepsFor_42 : decode cX6_stepsFor 42 = .ok (.goto (-38), 3) := by decide +kernel
theorem dX6_stepsFor_45 : decode cX6_stepsFor 45 = .ok (.iload_n 2, 1) := by decide +kernel
theorem dX6_stepsFor_46 : decode cX6_stepsFor 46 = .ok (.ireturn, 1) := by decide +kernel
set_option maxRecDepth 20000 in
theorem ggX6_stepsOf_X6_isIn : GoodIn wsX6_stepsOf wsX6_isIn := goodIn_r _ [5] (by decide +kernel) (by decide +kernel)
set_option maxRecDepth 20000 in
theorem gX6_stepsOf_X6_isIn : GoodIn wsX6_stepsOf (va_wsS RX6 56 yX6_isIn wsX6_isIn) := goodIn_app (goodIn_of _ (by decide +kernel)) ggX6_stepsOf_X6_isIn
set_option maxRecDepth 20000 in
theorem ggX6_stepsOf_X6_stepsFor : GoodIn wsX6_stepsOf wsX6_stepsFor := goodIn_r _ [9, 10, 11, 12, 4, 13, 1, 14, 15, 16, 17, 18, 19, 20, 21, 22, 23, 24, 25, 26, 27, 28, 29, 30, 31, 32, 33, 34, 35, 36, 37, 38, 39, 40, 41, 42, 43, 44, 45, 46, 47, 48, 49] (by decide +kernel) (by decide +kernel)
set_option maxRecDepth 20000 in
theorem gX6_stepsOf_X6_stepsFor : GoodIn wsX6_stepsOf (wsV RX6 216 RX6 yX6_stepsFor wsX6_stepsFor) := goodIn_app (goodIn_of _ (by decide +kernel)) ggX6_stepsOf_X6_stepsFor
theorem dX6_stepsOf_0 : decode cX6_stepsOf 0 = .ok (.iload_n 1, 1) := by decide +kernel
theorem dX6_stepsOf_1 : decode cX6_stepsOf 1 = .ok (.i2l, 1) := by decide +kernel
theorem dX6_stepsOf_2 : decode cX6_stepsOf 2 = .ok (.lconst 0, 1) := by decide +kernel
theorem dX6_stepsOf_3 : decode cX6_stepsOf 3 = .ok (.aload_n 0, 1) := by decide +kernel
theorem dX6_stepsOf_4 : decode cX6_stepsOf 4 = .ok (.getfield 9, 3) := by decide +kernel
theorem dX6_stepsOf_7 : decode cX6_stepsOf 7 = .ok (.iconst 2, 1) := by decide +kernel
theorem dX6_stepsOf_8 : decode cX6_stepsOf 8 = .ok (.iaload, 1) := by decide +kernel
theorem dX6_stepsOf_9 : decode cX6_stepsOf 9 = .ok (.i2l, 1) := by decide +kernel
theorem dX6_stepsOf_10 : decode cX6_stepsOf 10 = .ok (.invokestatic 56, 3) := by decide +kernel
theorem dX6_stepsOf_13 : decode cX6_stepsOf 13 = .ok (.ifCond .eq 11, 3) := by decide +kernel
theorem dX6_stepsOf_16 : decode cX6_stepsOf 16 = .ok (.aload_n 0, 1) := by decide +kernel
theorem dX6_stepsOf_17 : decode cX6_stepsOf 17 = .ok (.iload_n 1, 1) := by decide +kernel
theorem dX6_stepsOf_18 : decode cX6_stepsOf 18 = .ok (.invokevirtual 216, 3) := by decide +kernel
theorem dX6_stepsOf_21 : decode cX6_stepsOf 21 = .ok (.goto 4, 3) := by decide +kernel
theorem dX6_stepsOf_24 : decode cX6_stepsOf 24 = .ok (.iconst (-1), 1) := by decide +kernel
theorem dX6_stepsOf_25 : decode cX6_stepsOf 25 = .ok (.ireturn, 1) := by decide +kernel
set_option maxRecDepth 20000 in
theorem ggX6_sharesOf_X6_stepsFor : GoodIn wsX6_sharesOf wsX6_stepsFor := goodIn_r _ [7, 8, 9, 10, 6, 11, 12, 13, 14, 15, 16, 17, 18, 19, 20, 21, 22, 23, 24, 25, 26, 27, 28, 29, 30, 31, 32, 33, 34, 35, 36, 37, 38, 39, 40, 41, 42, 43, 44, 45, 46, 47, 48] (by decide +kernel) (by decide +kernel)
set_option maxRecDepth 20000 in
theorem gX6_sharesOf_X6_stepsFor : GoodIn wsX6_sharesOf (wsV RX6 216 RX6 yX6_stepsFor wsX6_stepsFor) := goodIn_app (goodIn_of _ (by decide +kernel)) ggX6_sharesOf_X6_stepsFor
theorem dX6_sharesOf_0 : decode cX6_sharesOf 0 = .ok (.iconst 0, 1) := by decide +kernel
theorem dX6_sharesOf_1 : decode cX6_sharesOf 1 = .ok (.istore_n 2, 1) := by decide +kernel
theorem dX6_sharesOf_2 : decode cX6_sharesOf 2 = .ok (.iconst 0, 1) := by decide +kernel
theorem dX6_sharesOf_3 : decode cX6_sharesOf 3 = .ok (.istore_n 3, 1) := by decide +kernel
theorem dX6_sharesOf_4 : decode cX6_sharesOf 4 = .ok (.iload_n 3, 1) := by decide +kernel
theorem dX6_sharesOf_5 : decode cX6_sharesOf 5 = .ok (.aload_n 0, 1) := by decide +kernel
theorem dX6_sharesOf_6 : decode cX6_sharesOf 6 = .ok (.getfield 171, 3) := by decide +kernel
theorem dX6_sharesOf_9 : decode cX6_sharesOf 9 = .ok (.if_icmp .ge 31, 3) := by decide +kernel
theorem dX6_sharesOf_12 : decode cX6_sharesOf 12 = .ok (.iload_n 2, 1) := by decide +kernel
theorem dX6_sharesOf_13 : decode cX6_sharesOf 13 = .ok (.aload_n 0, 1) := by decide +kernel
theorem dX6_sharesOf_14 : decode cX6_sharesOf 14 = .ok (.aload_n 0, 1) := by decide +kernel
theorem dX6_sharesOf_15 : decode cX6_sharesOf 15 = .ok (.getfield 46, 3) := by decide +kernel
theorem dX6_sharesOf_18 : decode cX6_sharesOf 18 = .ok (.iload_n 3, 1) := by decide +kernel
theorem dX6_sharesOf_19 : decode cX6_sharesOf 19 = .ok (.iaload, 1) := by decide +kernel
theorem dX6_sharesOf_20 : decode cX6_sharesOf 20 = .ok (.invokevirtual 216, 3) := by decide +kernel
theorem dX6_sharesOf_23 : decode cX6_sharesOf 23 = .ok (.iload_n 1, 1) := by decide +kernel
theorem dX6_sharesOf_24 : decode cX6_sharesOf 24 = .ok (.if_icmp .ne 7, 3) := by decide +kernel
theorem dX6_sharesOf_27 : decode cX6_sharesOf 27 = .ok (.iconst 1, 1) := by decide +kernel
theorem dX6_sharesOf_28 : decode cX6_sharesOf 28 = .ok (.goto 4, 3) := by decide +kernel
theorem dX6_sharesOf_31 : decode cX6_sharesOf 31 = .ok (.iconst 0, 1) := by decide +kernel
theorem dX6_sharesOf_32 : decode cX6_sharesOf 32 = .ok (.iadd, 1) := by decide +kernel
theorem dX6_sharesOf_33 : decode cX6_sharesOf 33 = .ok (.istore_n 2, 1) := by decide +kernel
theorem dX6_sharesOf_34 : decode cX6_sharesOf 34 = .ok (.iinc 3 1, 3) := by decide +kernel
theorem dX6_sharesOf_37 : decode cX6_sharesOf 37 = .ok (.goto (-33), 3) := by decide +kernel
theorem dX6_sharesOf_40 : decode cX6_sharesOf 40 = .ok (.iload_n 2, 1) := by decide +kernel
theorem dX6_sharesOf_41 : decode cX6_sharesOf 41 = .ok (.ireturn, 1) := by decide +kernel
set_option maxRecDepth 20000 in
theorem ggX6_shares_X6_isShelf : GoodIn wsX6_shares wsX6_isShelf := goodIn_r _ [5, 6, 7, 8, 4, 9] (by decide +kernel) (by decide +kernel)
set_option maxRecDepth 20000 in
theorem gX6_shares_X6_isShelf : GoodIn wsX6_shares (va_wsS RX6 104 yX6_isShelf wsX6_isShelf) := goodIn_app (goodIn_of _ (by decide +kernel)) ggX6_shares_X6_isShelf
set_option maxRecDepth 20000 in
theorem ggX6_shares_X6_isIn : GoodIn wsX6_shares wsX6_isIn := goodIn_r _ [9] (by decide +kernel) (by decide +kernel)
set_option maxRecDepth 20000 in
theorem gX6_shares_X6_isIn : GoodIn wsX6_shares (va_wsS RX6 56 yX6_isIn wsX6_isIn) := goodIn_app (goodIn_of _ (by decide +kernel)) ggX6_shares_X6_isIn
set_option maxRecDepth 20000 in
theorem ggX6_shares_X6_takesRow : GoodIn wsX6_shares wsX6_takesRow := goodIn_r _ [13, 14, 15, 16, 17, 18, 19, 20, 21, 4, 22, 23, 24, 2, 3, 5, 6, 7, 8, 9, 52, 53, 54, 55, 56, 57, 58, 59, 60, 61, 62, 63, 64, 65, 66, 67, 68, 69, 70, 71, 72] (by decide +kernel) (by decide +kernel)
set_option maxRecDepth 20000 in
theorem gX6_shares_X6_takesRow : GoodIn wsX6_shares (wsV RX6 210 RX6 yX6_takesRow wsX6_takesRow) := goodIn_app (goodIn_of _ (by decide +kernel)) ggX6_shares_X6_takesRow
set_option maxRecDepth 20000 in
theorem ggX6_shares_X6_sharesOf : GoodIn wsX6_shares wsX6_sharesOf := goodIn_r _ [28, 18, 15, 29, 30, 31, 4, 32, 33, 34, 35, 36, 17, 37, 38, 39, 40, 41, 42, 43, 44, 45, 46, 47, 48, 49, 50, 51, 52, 53, 54, 55, 56, 57, 58, 59, 60, 61, 62, 63, 64, 65, 66, 67, 68, 69, 70, 71, 72] (by decide +kernel) (by decide +kernel)
set_option maxRecDepth 20000 in
theorem gX6_shares_X6_sharesOf : GoodIn wsX6_shares (wsV RX6 219 RX6 yX6_sharesOf wsX6_sharesOf) := goodIn_app (goodIn_of _ (by decide +kernel)) ggX6_shares_X6_sharesOf
theorem dX6_shares_0 : decode cX6_shares 0 = .ok (.iload_n 1, 1) := by decide +kernel
theorem dX6_shares_1 : decode cX6_shares 1 = .ok (.invokestatic 104, 3) := by decide +kernel
theorem dX6_shares_4 : decode cX6_shares 4 = .ok (.ifCond .eq 15, 3) := by decide +kernel
theorem dX6_shares_7 : decode cX6_shares 7 = .ok (.iload_n 2, 1) := by decide +kernel
theorem dX6_shares_8 : decode cX6_shares 8 = .ok (.i2l, 1) := by decide +kernel
theorem dX6_shares_9 : decode cX6_shares 9 = .ok (.lconst 0, 1) := by decide +kernel
theorem dX6_shares_10 : decode cX6_shares 10 = .ok (.ldc2_w 131, 3) := by decide +kernel
theorem dX6_shares_13 : decode cX6_shares 13 = .ok (.invokestatic 56, 3) := by decide +kernel
theorem dX6_shares_16 : decode cX6_shares 16 = .ok (.ifCond .ne 5, 3) := by decide +kernel
theorem dX6_shares_19 : decode cX6_shares 19 = .ok (.iconst (-1), 1) := by decide +kernel
theorem dX6_shares_20 : decode cX6_shares 20 = .ok (.ireturn, 1) := by decide +kernel
theorem dX6_shares_21 : decode cX6_shares 21 = .ok (.aload_n 0, 1) := by decide +kernel
theorem dX6_shares_22 : decode cX6_shares 22 = .ok (.iload_n 1, 1) := by decide +kernel
theorem dX6_shares_23 : decode cX6_shares 23 = .ok (.invokevirtual 210, 3) := by decide +kernel
theorem dX6_shares_26 : decode cX6_shares 26 = .ok (.istore_n 3, 1) := by decide +kernel
theorem dX6_shares_27 : decode cX6_shares 27 = .ok (.iload_n 3, 1) := by decide +kernel
theorem dX6_shares_28 : decode cX6_shares 28 = .ok (.ifCond .eq 7, 3) := by decide +kernel
theorem dX6_shares_31 : decode cX6_shares 31 = .ok (.iload_n 3, 1) := by decide +kernel
theorem dX6_shares_32 : decode cX6_shares 32 = .ok (.goto 8, 3) := by decide +kernel
theorem dX6_shares_35 : decode cX6_shares 35 = .ok (.aload_n 0, 1) := by decide +kernel
theorem dX6_shares_36 : decode cX6_shares 36 = .ok (.iload_n 2, 1) := by decide +kernel
theorem dX6_shares_37 : decode cX6_shares 37 = .ok (.invokevirtual 219, 3) := by decide +kernel
theorem dX6_shares_40 : decode cX6_shares 40 = .ok (.ireturn, 1) := by decide +kernel
set_option maxRecDepth 20000 in
theorem ggX6_words_X6_isShelf : GoodIn wsX6_words wsX6_isShelf := goodIn_r _ [10, 11, 12, 13, 9, 14] (by decide +kernel) (by decide +kernel)
set_option maxRecDepth 20000 in
theorem gX6_words_X6_isShelf : GoodIn wsX6_words (va_wsS RX6 104 yX6_isShelf wsX6_isShelf) := goodIn_app (goodIn_of _ (by decide +kernel)) ggX6_words_X6_isShelf
set_option maxRecDepth 20000 in
theorem ggX6_words_X6_isIn : GoodIn wsX6_words wsX6_isIn := goodIn_r _ [14] (by decide +kernel) (by decide +kernel)
set_option maxRecDepth 20000 in
theorem gX6_words_X6_isIn : GoodIn wsX6_words (va_wsS RX6 56 yX6_isIn wsX6_isIn) := goodIn_app (goodIn_of _ (by decide +kernel)) ggX6_words_X6_isIn
set_option maxRecDepth 20000 in
theorem ggX6_words_X6_takesRow : GoodIn wsX6_words wsX6_takesRow := goodIn_r _ [18, 3, 6, 5, 19, 4, 20, 21, 22, 9, 23, 1, 2, 7, 8, 10, 11, 12, 13, 14, 47, 48, 49, 50, 51, 52, 53, 54, 55, 56, 57, 58, 59, 60, 61, 62, 63, 64, 65, 66, 67] (by decide +kernel) (by decide +kernel)
set_option maxRecDepth 20000 in
theorem gX6_words_X6_takesRow : GoodIn wsX6_words (wsV RX6 210 RX6 yX6_takesRow wsX6_takesRow) := goodIn_app (goodIn_of _ (by decide +kernel)) ggX6_words_X6_takesRow
set_option maxRecDepth 20000 in
theorem ggX6_words_X6_stepsFor : GoodIn wsX6_words wsX6_stepsFor := goodIn_r _ [27, 28, 29, 30, 9, 31, 19, 32, 33, 34, 35, 36, 37, 38, 39, 40, 41, 42, 43, 44, 45, 46, 47, 48, 49, 50, 51, 52, 53, 54, 55, 56, 57, 58, 59, 60, 61, 62, 63, 64, 65, 66, 67] (by decide +kernel) (by decide +kernel)
set_option maxRecDepth 20000 in
theorem gX6_words_X6_stepsFor : GoodIn wsX6_words (wsV RX6 216 RX6 yX6_stepsFor wsX6_stepsFor) := goodIn_app (goodIn_of _ (by decide +kernel)) ggX6_words_X6_stepsFor
theorem dX6_words_0 : decode cX6_words 0 = .ok (.iload_n 1, 1) := by decide +kernel
theorem dX6_words_1 : decode cX6_words 1 = .ok (.invokestatic 104, 3) := by decide +kernel
theorem dX6_words_4 : decode cX6_words 4 = .ok (.ifCond .eq 20, 3) := by decide +kernel
theorem dX6_words_7 : decode cX6_words 7 = .ok (.iload_n 2, 1) := by decide +kernel
theorem dX6_words_8 : decode cX6_words 8 = .ok (.invokestatic 104, 3) := by decide +kernel
theorem dX6_words_11 : decode cX6_words 11 = .ok (.ifCond .eq 13, 3) := by decide +kernel
theorem dX6_words_14 : decode cX6_words 14 = .ok (.iload_n 3, 1) := by decide +kernel
theorem dX6_words_15 : decode cX6_words 15 = .ok (.i2l, 1) := by decide +kernel
theorem dX6_words_16 : decode cX6_words 16 = .ok (.lconst 0, 1) := by decide +kernel
theorem dX6_words_17 : decode cX6_words 17 = .ok (.lconst 1, 1) := by decide +kernel
theorem dX6_words_18 : decode cX6_words 18 = .ok (.invokestatic 56, 3) := by decide +kernel
theorem dX6_words_21 : decode cX6_words 21 = .ok (.ifCond .ne 5, 3) := by decide +kernel
theorem dX6_words_24 : decode cX6_words 24 = .ok (.iconst (-1), 1) := by decide +kernel
theorem dX6_words_25 : decode cX6_words 25 = .ok (.ireturn, 1) := by decide +kernel
theorem dX6_words_26 : decode cX6_words 26 = .ok (.aload_n 0, 1) := by decide +kernel
theorem dX6_words_27 : decode cX6_words 27 = .ok (.getfield 22, 3) := by decide +kernel
theorem dX6_words_30 : decode cX6_words 30 = .ok (.iload_n 1, 1) := by decide +kernel
theorem dX6_words_31 : decode cX6_words 31 = .ok (.iaload, 1) := by decide +kernel
theorem dX6_words_32 : decode cX6_words 32 = .ok (.ifCond .eq 12, 3) := by decide +kernel
theorem dX6_words_35 : decode cX6_words 35 = .ok (.aload_n 0, 1) := by decide +kernel
theorem dX6_words_36 : decode cX6_words 36 = .ok (.getfield 22, 3) := by decide +kernel
theorem dX6_words_39 : decode cX6_words 39 = .ok (.iload_n 2, 1) := by decide +kernel
theorem dX6_words_40 : decode cX6_words 40 = .ok (.iaload, 1) := by decide +kernel
theorem dX6_words_41 : decode cX6_words 41 = .ok (.ifCond .ne 6, 3) := by decide +kernel
theorem dX6_words_44 : decode cX6_words 44 = .ok (.bipush (-11), 2) := by decide +kernel
theorem dX6_words_46 : decode cX6_words 46 = .ok (.ireturn, 1) := by decide +kernel
theorem dX6_words_47 : decode cX6_words 47 = .ok (.aload_n 0, 1) := by decide +kernel
theorem dX6_words_48 : decode cX6_words 48 = .ok (.getfield 22, 3) := by decide +kernel
theorem dX6_words_51 : decode cX6_words 51 = .ok (.iload_n 1, 1) := by decide +kernel
theorem dX6_words_52 : decode cX6_words 52 = .ok (.iaload, 1) := by decide +kernel
theorem dX6_words_53 : decode cX6_words 53 = .ok (.iconst 2, 1) := by decide +kernel
theorem dX6_words_54 : decode cX6_words 54 = .ok (.if_icmp .ne 22, 3) := by decide +kernel
theorem dX6_words_57 : decode cX6_words 57 = .ok (.aload_n 0, 1) := by decide +kernel
theorem dX6_words_58 : decode cX6_words 58 = .ok (.getfield 22, 3) := by decide +kernel
theorem dX6_words_61 : decode cX6_words 61 = .ok (.iload_n 2, 1) := by decide +kernel
theorem dX6_words_62 : decode cX6_words 62 = .ok (.iaload, 1) := by decide +kernel
theorem dX6_words_63 : decode cX6_words 63 = .ok (.iconst 2, 1) := by decide +kernel
theorem dX6_words_64 : decode cX6_words 64 = .ok (.if_icmp .ne 12, 3) := by decide +kernel
theorem dX6_words_67 : decode cX6_words 67 = .ok (.aload_n 0, 1) := by decide +kernel
theorem dX6_words_68 : decode cX6_words 68 = .ok (.getfield 25, 3) := by decide +kernel
theorem dX6_words_71 : decode cX6_words 71 = .ok (.iload_n 2, 1) := by decide +kernel
theorem dX6_words_72 : decode cX6_words 72 = .ok (.iaload, 1) := by decide +kernel
theorem dX6_words_73 : decode cX6_words 73 = .ok (.ifCond .eq 6, 3) := by decide +kernel
theorem dX6_words_76 : decode cX6_words 76 = .ok (.bipush (-12), 2) := by decide +kernel
theorem dX6_words_78 : decode cX6_words 78 = .ok (.ireturn, 1) := by decide +kernel
theorem dX6_words_79 : decode cX6_words 79 = .ok (.aload_n 0, 1) := by decide +kernel
theorem dX6_words_80 : decode cX6_words 80 = .ok (.iload_n 1, 1) := by decide +kernel
theorem dX6_words_81 : decode cX6_words 81 = .ok (.invokevirtual 210, 3) := by decide +kernel
theorem dX6_words_84 : decode cX6_words 84 = .ok (.istore 4, 2) := by decide +kernel
theorem dX6_words_86 : decode cX6_words 86 = .ok (.iload 4, 2) := by decide +kernel
theorem dX6_words_88 : decode cX6_words 88 = .ok (.ifCond .eq 6, 3) := by decide +kernel
theorem dX6_words_91 : decode cX6_words 91 = .ok (.iload 4, 2) := by decide +kernel
theorem dX6_words_93 : decode cX6_words 93 = .ok (.ireturn, 1) := by decide +kernel
theorem dX6_words_94 : decode cX6_words 94 = .ok (.aload_n 0, 1) := by decide +kernel
theorem dX6_words_95 : decode cX6_words 95 = .ok (.getfield 28, 3) := by decide +kernel
theorem dX6_words_98 : decode cX6_words 98 = .ok (.iload_n 2, 1) := by decide +kernel
theorem dX6_words_99 : decode cX6_words 99 = .ok (.iaload, 1) := by decide +kernel
theorem dX6_words_100 : decode cX6_words 100 = .ok (.aload_n 0, 1) := by decide +kernel
theorem dX6_words_101 : decode cX6_words 101 = .ok (.getfield 28, 3) := by decide +kernel
theorem dX6_words_104 : decode cX6_words 104 = .ok (.iload_n 1, 1) := by decide +kernel
theorem dX6_words_105 : decode cX6_words 105 = .ok (.iaload, 1) := by decide +kernel
theorem dX6_words_106 : decode cX6_words 106 = .ok (.if_icmp .eq 6, 3) := by decide +kernel
theorem dX6_words_109 : decode cX6_words 109 = .ok (.bipush (-13), 2) := by decide +kernel
theorem dX6_words_111 : decode cX6_words 111 = .ok (.ireturn, 1) := by decide +kernel
theorem dX6_words_112 : decode cX6_words 112 = .ok (.iconst 0, 1) := by decide +kernel
theorem dX6_words_113 : decode cX6_words 113 = .ok (.istore 5, 2) := by decide +kernel
theorem dX6_words_115 : decode cX6_words 115 = .ok (.iconst 0, 1) := by decide +kernel
theorem dX6_words_116 : decode cX6_words 116 = .ok (.istore 6, 2) := by decide +kernel
theorem dX6_words_118 : decode cX6_words 118 = .ok (.iload 6, 2) := by decide +kernel
theorem dX6_words_120 : decode cX6_words 120 = .ok (.aload_n 0, 1) := by decide +kernel
theorem dX6_words_121 : decode cX6_words 121 = .ok (.getfield 171, 3) := by decide +kernel
theorem dX6_words_124 : decode cX6_words 124 = .ok (.if_icmp .ge 67, 3) := by decide +kernel
theorem dX6_words_127 : decode cX6_words 127 = .ok (.aload_n 0, 1) := by decide +kernel
theorem dX6_words_128 : decode cX6_words 128 = .ok (.getfield 31, 3) := by decide +kernel
theorem dX6_words_131 : decode cX6_words 131 = .ok (.bipush 100, 2) := by decide +kernel
theorem dX6_words_133 : decode cX6_words 133 = .ok (.iload_n 2, 1) := by decide +kernel
theorem dX6_words_134 : decode cX6_words 134 = .ok (.imul, 1) := by decide +kernel
theorem dX6_words_135 : decode cX6_words 135 = .ok (.iload 6, 2) := by decide +kernel
theorem dX6_words_137 : decode cX6_words 137 = .ok (.iadd, 1) := by decide +kernel
theorem dX6_words_138 : decode cX6_words 138 = .ok (.iaload, 1) := by decide +kernel
theorem dX6_words_139 : decode cX6_words 139 = .ok (.aload_n 0, 1) := by decide +kernel
theorem dX6_words_140 : decode cX6_words 140 = .ok (.aload_n 0, 1) := by decide +kernel
theorem dX6_words_141 : decode cX6_words 141 = .ok (.getfield 46, 3) := by decide +kernel
theorem dX6_words_144 : decode cX6_words 144 = .ok (.iload 6, 2) := by decide +kernel
theorem dX6_words_146 : decode cX6_words 146 = .ok (.iaload, 1) := by decide +kernel
theorem dX6_words_147 : decode cX6_words 147 = .ok (.invokevirtual 216, 3) := by decide +kernel
theorem dX6_words_150 : decode cX6_words 150 = .ok (.isub, 1) := by decide +kernel
theorem dX6_words_151 : decode cX6_words 151 = .ok (.istore 7, 2) := by decide +kernel
theorem dX6_words_153 : decode cX6_words 153 = .ok (.iload 5, 2) := by decide +kernel
theorem dX6_words_155 : decode cX6_words 155 = .ok (.iload_n 3, 1) := by decide +kernel
theorem dX6_words_156 : decode cX6_words 156 = .ok (.ifCond .ne 16, 3) := by decide +kernel
theorem dX6_words_159 : decode cX6_words 159 = .ok (.iload 7, 2) := by decide +kernel
theorem dX6_words_161 : decode cX6_words 161 = .ok (.ifCond .ne 7, 3) := by decide +kernel
theorem dX6_words_164 : decode cX6_words 164 = .ok (.iconst 1, 1) := by decide +kernel
theorem dX6_words_165 : decode cX6_words 165 = .ok (.goto 17, 3) := by decide +kernel
theorem dX6_words_168 : decode cX6_words 168 = .ok (.iconst 0, 1) := by decide +kernel
theorem dX6_words_169 : decode cX6_words 169 = .ok (.goto 13, 3) := by decide +kernel
theorem dX6_words_172 : decode cX6_words 172 = .ok (.iload 7, 2) := by decide +kernel
theorem dX6_words_174 : decode cX6_words 174 = .ok (.ifCond .le 7, 3) := by decide +kernel
theorem dX6_words_177 : decode cX6_words 177 = .ok (.iconst 1, 1) := by decide +kernel
theorem dX6_words_178 : decode cX6_words 178 = .ok (.goto 4, 3) := by decide +kernel
theorem dX6_words_181 : decode cX6_words 181 = .ok (.iconst 0, 1) := by decide +kernel
theorem dX6_words_182 : decode cX6_words 182 = .ok (.iadd, 1) := by decide +kernel
theorem dX6_words_183 : decode cX6_words 183 = .ok (.istore 5, 2) := by decide +kernel
theorem dX6_words_185 : decode cX6_words 185 = .ok (.iinc 6 1, 3) := by decide +kernel
theorem dX6_words_188 : decode cX6_words 188 = .ok (.goto (-70), 3) := by decide +kernel
theorem dX6_words_191 : decode cX6_words 191 = .ok (.iload 5, 2) := by decide +kernel
theorem dX6_words_193 : decode cX6_words 193 = .ok (.ireturn, 1) := by decide +kernel
set_option maxRecDepth 20000 in
theorem ggX6_ahead_X6_isShelf : GoodIn wsX6_ahead wsX6_isShelf := goodIn_r _ [6, 7, 8, 9, 5, 10] (by decide +kernel) (by decide +kernel)
set_option maxRecDepth 20000 in
theorem gX6_ahead_X6_isShelf : GoodIn wsX6_ahead (va_wsS RX6 104 yX6_isShelf wsX6_isShelf) := goodIn_app (goodIn_of _ (by decide +kernel)) ggX6_ahead_X6_isShelf
set_option maxRecDepth 20000 in
theorem ggX6_ahead_X6_isShare : GoodIn wsX6_ahead wsX6_isShare := goodIn_r _ [13, 14, 8, 9, 5, 10] (by decide +kernel) (by decide +kernel)
set_option maxRecDepth 20000 in
theorem gX6_ahead_X6_isShare : GoodIn wsX6_ahead (va_wsS RX6 96 yX6_isShare wsX6_isShare) := goodIn_app (goodIn_of _ (by decide +kernel)) ggX6_ahead_X6_isShare
set_option maxRecDepth 20000 in
theorem ggX6_ahead_X6_takesRow : GoodIn wsX6_ahead wsX6_takesRow := goodIn_r _ [18, 19, 2, 20, 21, 1, 22, 23, 24, 5, 25, 26, 27, 3, 4, 6, 7, 8, 9, 10, 51, 52, 53, 54, 55, 56, 57, 58, 59, 60, 61, 62, 63, 64, 65, 66, 67, 68, 69, 70, 71] (by decide +kernel) (by decide +kernel)
set_option maxRecDepth 20000 in
theorem gX6_ahead_X6_takesRow : GoodIn wsX6_ahead (wsV RX6 210 RX6 yX6_takesRow wsX6_takesRow) := goodIn_app (goodIn_of _ (by decide +kernel)) ggX6_ahead_X6_takesRow
set_option maxRecDepth 20000 in
theorem ggX6_ahead_X6_stepsFor : GoodIn wsX6_ahead wsX6_stepsFor := goodIn_r _ [31, 32, 33, 34, 5, 35, 21, 36, 37, 38, 39, 40, 41, 42, 43, 44, 45, 46, 47, 48, 49, 50, 51, 52, 53, 54, 55, 56, 57, 58, 59, 60, 61, 62, 63, 64, 65, 66, 67, 68, 69, 70, 71] (by decide +kernel) (by decide +kernel)
set_option maxRecDepth 20000 in
theorem gX6_ahead_X6_stepsFor : GoodIn wsX6_ahead (wsV RX6 216 RX6 yX6_stepsFor wsX6_stepsFor) := goodIn_app (goodIn_of _ (by decide +kernel)) ggX6_ahead_X6_stepsFor
set_option maxRecDepth 20000 in
theorem ggX6_ahead_X6_levelBy : GoodIn wsX6_ahead wsX6_levelBy := goodIn_r _ [39, 21, 40, 41, 42, 5, 43, 44, 45, 46, 47, 51, 52, 53, 54, 55, 56, 57, 58, 59, 60, 61, 62, 63, 64, 65, 66, 67, 68, 69, 70, 71] (by decide +kernel) (by decide +kernel)
set_option maxRecDepth 20000 in
theorem gX6_ahead_X6_levelBy : GoodIn wsX6_ahead (wsV RX6 141 RX6 yX6_levelBy wsX6_levelBy) := goodIn_app (goodIn_of _ (by decide +kernel)) ggX6_ahead_X6_levelBy
theorem dX6_ahead_0 : decode cX6_ahead 0 = .ok (.iload_n 1, 1) := by decide +kernel
theorem dX6_ahead_1 : decode cX6_ahead 1 = .ok (.invokestatic 104, 3) := by decide +kernel
theorem dX6_ahead_4 : decode cX6_ahead 4 = .ok (.ifCond .eq 11, 3) := by decide +kernel
theorem dX6_ahead_7 : decode cX6_ahead 7 = .ok (.iload_n 2, 1) := by decide +kernel
theorem dX6_ahead_8 : decode cX6_ahead 8 = .ok (.iload_n 3, 1) := by decide +kernel
theorem dX6_ahead_9 : decode cX6_ahead 9 = .ok (.invokestatic 96, 3) := by decide +kernel
theorem dX6_ahead_12 : decode cX6_ahead 12 = .ok (.ifCond .ne 5, 3) := by decide +kernel
theorem dX6_ahead_15 : decode cX6_ahead 15 = .ok (.iconst (-1), 1) := by decide +kernel
theorem dX6_ahead_16 : decode cX6_ahead 16 = .ok (.ireturn, 1) := by decide +kernel
theorem dX6_ahead_17 : decode cX6_ahead 17 = .ok (.aload_n 0, 1) := by decide +kernel
theorem dX6_ahead_18 : decode cX6_ahead 18 = .ok (.iload_n 1, 1) := by decide +kernel
theorem dX6_ahead_19 : decode cX6_ahead 19 = .ok (.invokevirtual 210, 3) := by decide +kernel
theorem dX6_ahead_22 : decode cX6_ahead 22 = .ok (.istore 4, 2) := by decide +kernel
theorem dX6_ahead_24 : decode cX6_ahead 24 = .ok (.iload 4, 2) := by decide +kernel
theorem dX6_ahead_26 : decode cX6_ahead 26 = .ok (.ifCond .eq 6, 3) := by decide +kernel
theorem dX6_ahead_29 : decode cX6_ahead 29 = .ok (.iload 4, 2) := by decide +kernel
theorem dX6_ahead_31 : decode cX6_ahead 31 = .ok (.ireturn, 1) := by decide +kernel
theorem dX6_ahead_32 : decode cX6_ahead 32 = .ok (.iconst 0, 1) := by decide +kernel
theorem dX6_ahead_33 : decode cX6_ahead 33 = .ok (.istore 5, 2) := by decide +kernel
theorem dX6_ahead_35 : decode cX6_ahead 35 = .ok (.iconst 0, 1) := by decide +kernel
theorem dX6_ahead_36 : decode cX6_ahead 36 = .ok (.istore 6, 2) := by decide +kernel
theorem dX6_ahead_38 : decode cX6_ahead 38 = .ok (.iload 6, 2) := by decide +kernel
theorem dX6_ahead_40 : decode cX6_ahead 40 = .ok (.aload_n 0, 1) := by decide +kernel
theorem dX6_ahead_41 : decode cX6_ahead 41 = .ok (.getfield 171, 3) := by decide +kernel
theorem dX6_ahead_44 : decode cX6_ahead 44 = .ok (.if_icmp .ge 31, 3) := by decide +kernel
theorem dX6_ahead_47 : decode cX6_ahead 47 = .ok (.iload 5, 2) := by decide +kernel
theorem dX6_ahead_49 : decode cX6_ahead 49 = .ok (.aload_n 0, 1) := by decide +kernel
theorem dX6_ahead_50 : decode cX6_ahead 50 = .ok (.aload_n 0, 1) := by decide +kernel
theorem dX6_ahead_51 : decode cX6_ahead 51 = .ok (.aload_n 0, 1) := by decide +kernel
theorem dX6_ahead_52 : decode cX6_ahead 52 = .ok (.getfield 46, 3) := by decide +kernel
theorem dX6_ahead_55 : decode cX6_ahead 55 = .ok (.iload 6, 2) := by decide +kernel
theorem dX6_ahead_57 : decode cX6_ahead 57 = .ok (.iaload, 1) := by decide +kernel
theorem dX6_ahead_58 : decode cX6_ahead 58 = .ok (.invokevirtual 216, 3) := by decide +kernel
theorem dX6_ahead_61 : decode cX6_ahead 61 = .ok (.iload_n 2, 1) := by decide +kernel
theorem dX6_ahead_62 : decode cX6_ahead 62 = .ok (.iload_n 3, 1) := by decide +kernel
theorem dX6_ahead_63 : decode cX6_ahead 63 = .ok (.invokevirtual 141, 3) := by decide +kernel
theorem dX6_ahead_66 : decode cX6_ahead 66 = .ok (.iadd, 1) := by decide +kernel
theorem dX6_ahead_67 : decode cX6_ahead 67 = .ok (.istore 5, 2) := by decide +kernel
theorem dX6_ahead_69 : decode cX6_ahead 69 = .ok (.iinc 6 1, 3) := by decide +kernel
theorem dX6_ahead_72 : decode cX6_ahead 72 = .ok (.goto (-34), 3) := by decide +kernel
theorem dX6_ahead_75 : decode cX6_ahead 75 = .ok (.iload 5, 2) := by decide +kernel
theorem dX6_ahead_77 : decode cX6_ahead 77 = .ok (.ireturn, 1) := by decide +kernel
set_option maxRecDepth 20000 in
theorem ggX6_worth_X6_isShelf : GoodIn wsX6_worth wsX6_isShelf := goodIn_r _ [7, 8, 9, 10, 6, 11] (by decide +kernel) (by decide +kernel)
set_option maxRecDepth 20000 in
theorem gX6_worth_X6_isShelf : GoodIn wsX6_worth (va_wsS RX6 104 yX6_isShelf wsX6_isShelf) := goodIn_app (goodIn_of _ (by decide +kernel)) ggX6_worth_X6_isShelf
set_option maxRecDepth 20000 in
theorem ggX6_worth_X6_isIn : GoodIn wsX6_worth wsX6_isIn := goodIn_r _ [11] (by decide +kernel) (by decide +kernel)
set_option maxRecDepth 20000 in
theorem gX6_worth_X6_isIn : GoodIn wsX6_worth (va_wsS RX6 56 yX6_isIn wsX6_isIn) := goodIn_app (goodIn_of _ (by decide +kernel)) ggX6_worth_X6_isIn
set_option maxRecDepth 20000 in
theorem ggX6_worth_X6_takesRow : GoodIn wsX6_worth wsX6_takesRow := goodIn_r _ [15, 16, 17, 18, 19, 20, 21, 22, 23, 6, 24, 25, 26, 4, 5, 7, 8, 9, 10, 11, 57, 58, 59, 60, 61, 62, 63, 64, 65, 66, 67, 68, 69, 70, 71, 72, 73, 74, 75, 76, 77] (by decide +kernel) (by decide +kernel)
set_option maxRecDepth 20000 in
theorem gX6_worth_X6_takesRow : GoodIn wsX6_worth (wsV RX6 210 RX6 yX6_takesRow wsX6_takesRow) := goodIn_app (goodIn_of _ (by decide +kernel)) ggX6_worth_X6_takesRow
set_option maxRecDepth 20000 in
theorem ggX6_worth_X6_targetOf : GoodIn wsX6_worth wsX6_targetOf := goodIn_r _ [30, 19, 20, 31, 32, 33, 6, 34, 17, 35, 36, 37, 38, 39, 40, 57, 58, 59, 60, 61, 62, 63, 64, 65, 66, 67, 68, 69, 70, 71, 72, 73, 74, 75, 76, 77] (by decide +kernel) (by decide +kernel)
set_option maxRecDepth 20000 in
theorem gX6_worth_X6_targetOf : GoodIn wsX6_worth (wsV RX6 206 RX6 yX6_targetOf wsX6_targetOf) := goodIn_app (goodIn_of _ (by decide +kernel)) ggX6_worth_X6_targetOf
set_option maxRecDepth 20000 in
theorem ggX6_worth_X6_levelOf : GoodIn wsX6_worth wsX6_levelOf := goodIn_r _ [44, 19, 45, 46, 47, 6, 48, 49, 50, 51, 52, 53, 54, 55, 56, 57, 58, 59, 60, 61, 62, 63, 64, 65, 66, 67, 68, 69, 70, 71, 72, 73, 74, 75, 76, 77] (by decide +kernel) (by decide +kernel)
set_option maxRecDepth 20000 in
theorem gX6_worth_X6_levelOf : GoodIn wsX6_worth (wsV RX6 213 RX6 yX6_levelOf wsX6_levelOf) := goodIn_app (goodIn_of _ (by decide +kernel)) ggX6_worth_X6_levelOf
theorem dX6_worth_0 : decode cX6_worth 0 = .ok (.iload_n 1, 1) := by decide +kernel
theorem dX6_worth_1 : decode cX6_worth 1 = .ok (.invokestatic 104, 3) := by decide +kernel
theorem dX6_worth_4 : decode cX6_worth 4 = .ok (.ifCond .eq 15, 3) := by decide +kernel
theorem dX6_worth_7 : decode cX6_worth 7 = .ok (.iload_n 2, 1) := by decide +kernel
theorem dX6_worth_8 : decode cX6_worth 8 = .ok (.i2l, 1) := by decide +kernel
theorem dX6_worth_9 : decode cX6_worth 9 = .ok (.lconst 0, 1) := by decide +kernel
theorem dX6_worth_10 : decode cX6_worth 10 = .ok (.ldc2_w 222, 3) := by decide +kernel
theorem dX6_worth_13 : decode cX6_worth 13 = .ok (.invokestatic 56, 3) := by decide +kernel
theorem dX6_worth_16 : decode cX6_worth 16 = .ok (.ifCond .ne 7, 3) := by decide +kernel
theorem dX6_worth_19 : decode cX6_worth 19 = .ok (.ldc2_w 224, 3) := by decide +kernel
theorem dX6_worth_22 : decode cX6_worth 22 = .ok (.lreturn, 1) := by decide +kernel
theorem dX6_worth_23 : decode cX6_worth 23 = .ok (.aload_n 0, 1) := by decide +kernel
theorem dX6_worth_24 : decode cX6_worth 24 = .ok (.iload_n 1, 1) := by decide +kernel
theorem dX6_worth_25 : decode cX6_worth 25 = .ok (.invokevirtual 210, 3) := by decide +kernel
theorem dX6_worth_28 : decode cX6_worth 28 = .ok (.istore_n 3, 1) := by decide +kernel
theorem dX6_worth_29 : decode cX6_worth 29 = .ok (.iload_n 3, 1) := by decide +kernel
theorem dX6_worth_30 : decode cX6_worth 30 = .ok (.ifCond .eq 10, 3) := by decide +kernel
theorem dX6_worth_33 : decode cX6_worth 33 = .ok (.ldc2_w 226, 3) := by decide +kernel
theorem dX6_worth_36 : decode cX6_worth 36 = .ok (.iload_n 3, 1) := by decide +kernel
theorem dX6_worth_37 : decode cX6_worth 37 = .ok (.i2l, 1) := by decide +kernel
theorem dX6_worth_38 : decode cX6_worth 38 = .ok (.ladd, 1) := by decide +kernel
theorem dX6_worth_39 : decode cX6_worth 39 = .ok (.lreturn, 1) := by decide +kernel
theorem dX6_worth_40 : decode cX6_worth 40 = .ok (.aload_n 0, 1) := by decide +kernel
theorem dX6_worth_41 : decode cX6_worth 41 = .ok (.iconst 0, 1) := by decide +kernel
theorem dX6_worth_42 : decode cX6_worth 42 = .ok (.invokevirtual 206, 3) := by decide +kernel
theorem dX6_worth_45 : decode cX6_worth 45 = .ok (.lstore 4, 2) := by decide +kernel
theorem dX6_worth_47 : decode cX6_worth 47 = .ok (.aload_n 0, 1) := by decide +kernel
theorem dX6_worth_48 : decode cX6_worth 48 = .ok (.iconst 1, 1) := by decide +kernel
theorem dX6_worth_49 : decode cX6_worth 49 = .ok (.invokevirtual 206, 3) := by decide +kernel
theorem dX6_worth_52 : decode cX6_worth 52 = .ok (.lstore 6, 2) := by decide +kernel
theorem dX6_worth_54 : decode cX6_worth 54 = .ok (.aload_n 0, 1) := by decide +kernel
theorem dX6_worth_55 : decode cX6_worth 55 = .ok (.iload_n 2, 1) := by decide +kernel
theorem dX6_worth_56 : decode cX6_worth 56 = .ok (.invokevirtual 213, 3) := by decide +kernel
theorem dX6_worth_59 : decode cX6_worth 59 = .ok (.i2l, 1) := by decide +kernel
theorem dX6_worth_60 : decode cX6_worth 60 = .ok (.lload 6, 2) := by decide +kernel
theorem dX6_worth_62 : decode cX6_worth 62 = .ok (.lmul, 1) := by decide +kernel
theorem dX6_worth_63 : decode cX6_worth 63 = .ok (.lload 4, 2) := by decide +kernel
theorem dX6_worth_65 : decode cX6_worth 65 = .ok (.lsub, 1) := by decide +kernel
theorem dX6_worth_66 : decode cX6_worth 66 = .ok (.lstore 8, 2) := by decide +kernel
theorem dX6_worth_68 : decode cX6_worth 68 = .ok (.aload_n 0, 1) := by decide +kernel
theorem dX6_worth_69 : decode cX6_worth 69 = .ok (.iload_n 2, 1) := by decide +kernel
theorem dX6_worth_70 : decode cX6_worth 70 = .ok (.iconst 1, 1) := by decide +kernel
theorem dX6_worth_71 : decode cX6_worth 71 = .ok (.iadd, 1) := by decide +kernel
theorem dX6_worth_72 : decode cX6_worth 72 = .ok (.invokevirtual 213, 3) := by decide +kernel
theorem dX6_worth_75 : decode cX6_worth 75 = .ok (.i2l, 1) := by decide +kernel
theorem dX6_worth_76 : decode cX6_worth 76 = .ok (.lload 6, 2) := by decide +kernel
theorem dX6_worth_78 : decode cX6_worth 78 = .ok (.lmul, 1) := by decide +kernel
theorem dX6_worth_79 : decode cX6_worth 79 = .ok (.lload 4, 2) := by decide +kernel
theorem dX6_worth_81 : decode cX6_worth 81 = .ok (.lsub, 1) := by decide +kernel
theorem dX6_worth_82 : decode cX6_worth 82 = .ok (.lstore 10, 2) := by decide +kernel
theorem dX6_worth_84 : decode cX6_worth 84 = .ok (.lload 8, 2) := by decide +kernel
theorem dX6_worth_86 : decode cX6_worth 86 = .ok (.lconst 0, 1) := by decide +kernel
theorem dX6_worth_87 : decode cX6_worth 87 = .ok (.lcmp, 1) := by decide +kernel
theorem dX6_worth_88 : decode cX6_worth 88 = .ok (.ifCond .ge 9, 3) := by decide +kernel
theorem dX6_worth_91 : decode cX6_worth 91 = .ok (.lload 8, 2) := by decide +kernel
theorem dX6_worth_93 : decode cX6_worth 93 = .ok (.lneg, 1) := by decide +kernel
theorem dX6_worth_94 : decode cX6_worth 94 = .ok (.goto 5, 3) := by decide +kernel
theorem dX6_worth_97 : decode cX6_worth 97 = .ok (.lload 8, 2) := by decide +kernel
theorem dX6_worth_99 : decode cX6_worth 99 = .ok (.lload 10, 2) := by decide +kernel
theorem dX6_worth_101 : decode cX6_worth 101 = .ok (.lconst 0, 1) := by decide +kernel
theorem dX6_worth_102 : decode cX6_worth 102 = .ok (.lcmp, 1) := by decide +kernel
theorem dX6_worth_103 : decode cX6_worth 103 = .ok (.ifCond .ge 9, 3) := by decide +kernel
theorem dX6_worth_106 : decode cX6_worth 106 = .ok (.lload 10, 2) := by decide +kernel
theorem dX6_worth_108 : decode cX6_worth 108 = .ok (.lneg, 1) := by decide +kernel
theorem dX6_worth_109 : decode cX6_worth 109 = .ok (.goto 5, 3) := by decide +kernel
theorem dX6_worth_112 : decode cX6_worth 112 = .ok (.lload 10, 2) := by decide +kernel
theorem dX6_worth_114 : decode cX6_worth 114 = .ok (.lsub, 1) := by decide +kernel
theorem dX6_worth_115 : decode cX6_worth 115 = .ok (.lreturn, 1) := by decide +kernel
set_option maxRecDepth 20000 in
theorem ggX6_jokers_X6_isShelf : GoodIn wsX6_jokers wsX6_isShelf := goodIn_r _ [7, 8, 9, 10, 6, 11] (by decide +kernel) (by decide +kernel)
set_option maxRecDepth 20000 in
theorem gX6_jokers_X6_isShelf : GoodIn wsX6_jokers (va_wsS RX6 104 yX6_isShelf wsX6_isShelf) := goodIn_app (goodIn_of _ (by decide +kernel)) ggX6_jokers_X6_isShelf
set_option maxRecDepth 20000 in
theorem ggX6_jokers_X6_isIn : GoodIn wsX6_jokers wsX6_isIn := goodIn_r _ [11] (by decide +kernel) (by decide +kernel)
set_option maxRecDepth 20000 in
theorem gX6_jokers_X6_isIn : GoodIn wsX6_jokers (va_wsS RX6 56 yX6_isIn wsX6_isIn) := goodIn_app (goodIn_of _ (by decide +kernel)) ggX6_jokers_X6_isIn
set_option maxRecDepth 20000 in
theorem ggX6_jokers_X6_takesRow : GoodIn wsX6_jokers wsX6_takesRow := goodIn_r _ [15, 16, 2, 17, 3, 1, 18, 19, 20, 6, 21, 22, 23, 4, 5, 7, 8, 9, 10, 11, 34, 35, 36, 37, 38, 39, 40, 41, 42, 43, 44, 45, 46, 47, 48, 49, 50, 51, 52, 53, 54] (by decide +kernel) (by decide +kernel)
set_option maxRecDepth 20000 in
theorem gX6_jokers_X6_takesRow : GoodIn wsX6_jokers (wsV RX6 210 RX6 yX6_takesRow wsX6_takesRow) := goodIn_app (goodIn_of _ (by decide +kernel)) ggX6_jokers_X6_takesRow
set_option maxRecDepth 20000 in
theorem ggX6_jokers_X6_sumOf : GoodIn wsX6_jokers wsX6_sumOf := goodIn_r _ [27, 1, 2, 34, 35, 36, 37, 38, 39, 40, 41, 42, 43, 44, 45, 46, 47, 48, 49, 50, 51, 52, 53, 54] (by decide +kernel) (by decide +kernel)
set_option maxRecDepth 20000 in
theorem gX6_jokers_X6_sumOf : GoodIn wsX6_jokers (wsV RX6 180 RX6 yX6_sumOf wsX6_sumOf) := goodIn_app (goodIn_of _ (by decide +kernel)) ggX6_jokers_X6_sumOf
set_option maxRecDepth 20000 in
theorem ggX6_jokers_X6_partOf : GoodIn wsX6_jokers wsX6_partOf := goodIn_r _ [30, 31, 32, 6, 33] (by decide +kernel) (by decide +kernel)
set_option maxRecDepth 20000 in
theorem gX6_jokers_X6_partOf : GoodIn wsX6_jokers (va_wsS RX6 202 yX6_partOf wsX6_partOf) := goodIn_app (goodIn_of _ (by decide +kernel)) ggX6_jokers_X6_partOf
theorem dX6_jokers_0 : decode cX6_jokers 0 = .ok (.iload_n 1, 1) := by decide +kernel
theorem dX6_jokers_1 : decode cX6_jokers 1 = .ok (.invokestatic 104, 3) := by decide +kernel
theorem dX6_jokers_4 : decode cX6_jokers 4 = .ok (.ifCond .eq 13, 3) := by decide +kernel
theorem dX6_jokers_7 : decode cX6_jokers 7 = .ok (.iload_n 2, 1) := by decide +kernel
theorem dX6_jokers_8 : decode cX6_jokers 8 = .ok (.i2l, 1) := by decide +kernel
theorem dX6_jokers_9 : decode cX6_jokers 9 = .ok (.lconst 0, 1) := by decide +kernel
theorem dX6_jokers_10 : decode cX6_jokers 10 = .ok (.lconst 1, 1) := by decide +kernel
theorem dX6_jokers_11 : decode cX6_jokers 11 = .ok (.invokestatic 56, 3) := by decide +kernel
theorem dX6_jokers_14 : decode cX6_jokers 14 = .ok (.ifCond .ne 5, 3) := by decide +kernel
theorem dX6_jokers_17 : decode cX6_jokers 17 = .ok (.iconst (-1), 1) := by decide +kernel
theorem dX6_jokers_18 : decode cX6_jokers 18 = .ok (.ireturn, 1) := by decide +kernel
theorem dX6_jokers_19 : decode cX6_jokers 19 = .ok (.aload_n 0, 1) := by decide +kernel
theorem dX6_jokers_20 : decode cX6_jokers 20 = .ok (.iload_n 1, 1) := by decide +kernel
theorem dX6_jokers_21 : decode cX6_jokers 21 = .ok (.invokevirtual 210, 3) := by decide +kernel
theorem dX6_jokers_24 : decode cX6_jokers 24 = .ok (.istore_n 3, 1) := by decide +kernel
theorem dX6_jokers_25 : decode cX6_jokers 25 = .ok (.iload_n 3, 1) := by decide +kernel
theorem dX6_jokers_26 : decode cX6_jokers 26 = .ok (.ifCond .eq 5, 3) := by decide +kernel
theorem dX6_jokers_29 : decode cX6_jokers 29 = .ok (.iload_n 3, 1) := by decide +kernel
theorem dX6_jokers_30 : decode cX6_jokers 30 = .ok (.ireturn, 1) := by decide +kernel
theorem dX6_jokers_31 : decode cX6_jokers 31 = .ok (.lconst 0, 1) := by decide +kernel
theorem dX6_jokers_32 : decode cX6_jokers 32 = .ok (.lstore 4, 2) := by decide +kernel
theorem dX6_jokers_34 : decode cX6_jokers 34 = .ok (.lconst 0, 1) := by decide +kernel
theorem dX6_jokers_35 : decode cX6_jokers 35 = .ok (.lstore 6, 2) := by decide +kernel
theorem dX6_jokers_37 : decode cX6_jokers 37 = .ok (.iconst 0, 1) := by decide +kernel
theorem dX6_jokers_38 : decode cX6_jokers 38 = .ok (.istore 8, 2) := by decide +kernel
theorem dX6_jokers_40 : decode cX6_jokers 40 = .ok (.iload 8, 2) := by decide +kernel
theorem dX6_jokers_42 : decode cX6_jokers 42 = .ok (.aload_n 0, 1) := by decide +kernel
theorem dX6_jokers_43 : decode cX6_jokers 43 = .ok (.getfield 171, 3) := by decide +kernel
theorem dX6_jokers_46 : decode cX6_jokers 46 = .ok (.if_icmp .ge 47, 3) := by decide +kernel
theorem dX6_jokers_49 : decode cX6_jokers 49 = .ok (.aload_n 0, 1) := by decide +kernel
theorem dX6_jokers_50 : decode cX6_jokers 50 = .ok (.getfield 46, 3) := by decide +kernel
theorem dX6_jokers_53 : decode cX6_jokers 53 = .ok (.iload 8, 2) := by decide +kernel
theorem dX6_jokers_55 : decode cX6_jokers 55 = .ok (.iaload, 1) := by decide +kernel
theorem dX6_jokers_56 : decode cX6_jokers 56 = .ok (.aload_n 0, 1) := by decide +kernel
theorem dX6_jokers_57 : decode cX6_jokers 57 = .ok (.getfield 9, 3) := by decide +kernel
theorem dX6_jokers_60 : decode cX6_jokers 60 = .ok (.iconst 2, 1) := by decide +kernel
theorem dX6_jokers_61 : decode cX6_jokers 61 = .ok (.iaload, 1) := by decide +kernel
theorem dX6_jokers_62 : decode cX6_jokers 62 = .ok (.if_icmp .ne 6, 3) := by decide +kernel
theorem dX6_jokers_65 : decode cX6_jokers 65 = .ok (.goto 22, 3) := by decide +kernel
theorem dX6_jokers_68 : decode cX6_jokers 68 = .ok (.lload 4, 2) := by decide +kernel
theorem dX6_jokers_70 : decode cX6_jokers 70 = .ok (.aload_n 0, 1) := by decide +kernel
theorem dX6_jokers_71 : decode cX6_jokers 71 = .ok (.getfield 46, 3) := by decide +kernel
theorem dX6_jokers_74 : decode cX6_jokers 74 = .ok (.iload 8, 2) := by decide +kernel
theorem dX6_jokers_76 : decode cX6_jokers 76 = .ok (.iaload, 1) := by decide +kernel
theorem dX6_jokers_77 : decode cX6_jokers 77 = .ok (.i2l, 1) := by decide +kernel
theorem dX6_jokers_78 : decode cX6_jokers 78 = .ok (.ladd, 1) := by decide +kernel
theorem dX6_jokers_79 : decode cX6_jokers 79 = .ok (.lstore 4, 2) := by decide +kernel
theorem dX6_jokers_81 : decode cX6_jokers 81 = .ok (.lload 6, 2) := by decide +kernel
theorem dX6_jokers_83 : decode cX6_jokers 83 = .ok (.lconst 1, 1) := by decide +kernel
theorem dX6_jokers_84 : decode cX6_jokers 84 = .ok (.ladd, 1) := by decide +kernel
theorem dX6_jokers_85 : decode cX6_jokers 85 = .ok (.lstore 6, 2) := by decide +kernel
theorem dX6_jokers_87 : decode cX6_jokers 87 = .ok (.iinc 8 1, 3) := by decide +kernel
theorem dX6_jokers_90 : decode cX6_jokers 90 = .ok (.goto (-50), 3) := by decide +kernel
theorem dX6_jokers_93 : decode cX6_jokers 93 = .ok (.lload 6, 2) := by decide +kernel
theorem dX6_jokers_95 : decode cX6_jokers 95 = .ok (.lconst 0, 1) := by decide +kernel
theorem dX6_jokers_96 : decode cX6_jokers 96 = .ok (.lcmp, 1) := by decide +kernel
theorem dX6_jokers_97 : decode cX6_jokers 97 = .ok (.ifCond .ne 6, 3) := by decide +kernel
theorem dX6_jokers_100 : decode cX6_jokers 100 = .ok (.lconst 1, 1) := by decide +kernel
theorem dX6_jokers_101 : decode cX6_jokers 101 = .ok (.lstore 6, 2) := by decide +kernel
theorem dX6_jokers_103 : decode cX6_jokers 103 = .ok (.aload_n 0, 1) := by decide +kernel
theorem dX6_jokers_104 : decode cX6_jokers 104 = .ok (.getfield 9, 3) := by decide +kernel
theorem dX6_jokers_107 : decode cX6_jokers 107 = .ok (.iconst 0, 1) := by decide +kernel
theorem dX6_jokers_108 : decode cX6_jokers 108 = .ok (.iaload, 1) := by decide +kernel
theorem dX6_jokers_109 : decode cX6_jokers 109 = .ok (.i2l, 1) := by decide +kernel
theorem dX6_jokers_110 : decode cX6_jokers 110 = .ok (.aload_n 0, 1) := by decide +kernel
theorem dX6_jokers_111 : decode cX6_jokers 111 = .ok (.invokevirtual 180, 3) := by decide +kernel
theorem dX6_jokers_114 : decode cX6_jokers 114 = .ok (.i2l, 1) := by decide +kernel
theorem dX6_jokers_115 : decode cX6_jokers 115 = .ok (.lload 6, 2) := by decide +kernel
theorem dX6_jokers_117 : decode cX6_jokers 117 = .ok (.lmul, 1) := by decide +kernel
theorem dX6_jokers_118 : decode cX6_jokers 118 = .ok (.lload 4, 2) := by decide +kernel
theorem dX6_jokers_120 : decode cX6_jokers 120 = .ok (.aload_n 0, 1) := by decide +kernel
theorem dX6_jokers_121 : decode cX6_jokers 121 = .ok (.getfield 171, 3) := by decide +kernel
theorem dX6_jokers_124 : decode cX6_jokers 124 = .ok (.i2l, 1) := by decide +kernel
theorem dX6_jokers_125 : decode cX6_jokers 125 = .ok (.lmul, 1) := by decide +kernel
theorem dX6_jokers_126 : decode cX6_jokers 126 = .ok (.lsub, 1) := by decide +kernel
theorem dX6_jokers_127 : decode cX6_jokers 127 = .ok (.lmul, 1) := by decide +kernel
theorem dX6_jokers_128 : decode cX6_jokers 128 = .ok (.lstore 8, 2) := by decide +kernel
theorem dX6_jokers_130 : decode cX6_jokers 130 = .ok (.lload 8, 2) := by decide +kernel
theorem dX6_jokers_132 : decode cX6_jokers 132 = .ok (.aload_n 0, 1) := by decide +kernel
theorem dX6_jokers_133 : decode cX6_jokers 133 = .ok (.getfield 9, 3) := by decide +kernel
theorem dX6_jokers_136 : decode cX6_jokers 136 = .ok (.iconst 1, 1) := by decide +kernel
theorem dX6_jokers_137 : decode cX6_jokers 137 = .ok (.iaload, 1) := by decide +kernel
theorem dX6_jokers_138 : decode cX6_jokers 138 = .ok (.aload_n 0, 1) := by decide +kernel
theorem dX6_jokers_139 : decode cX6_jokers 139 = .ok (.getfield 171, 3) := by decide +kernel
theorem dX6_jokers_142 : decode cX6_jokers 142 = .ok (.imul, 1) := by decide +kernel
theorem dX6_jokers_143 : decode cX6_jokers 143 = .ok (.i2l, 1) := by decide +kernel
theorem dX6_jokers_144 : decode cX6_jokers 144 = .ok (.lload 6, 2) := by decide +kernel
theorem dX6_jokers_146 : decode cX6_jokers 146 = .ok (.lmul, 1) := by decide +kernel
theorem dX6_jokers_147 : decode cX6_jokers 147 = .ok (.iload_n 2, 1) := by decide +kernel
theorem dX6_jokers_148 : decode cX6_jokers 148 = .ok (.invokestatic 202, 3) := by decide +kernel
theorem dX6_jokers_151 : decode cX6_jokers 151 = .ok (.l2i, 1) := by decide +kernel
theorem dX6_jokers_152 : decode cX6_jokers 152 = .ok (.ireturn, 1) := by decide +kernel
set_option maxRecDepth 20000 in
theorem ggX6_differ_X6_isShelf : GoodIn wsX6_differ wsX6_isShelf := goodIn_r _ [7, 8, 9, 10, 6, 11] (by decide +kernel) (by decide +kernel)
set_option maxRecDepth 20000 in
theorem gX6_differ_X6_isShelf : GoodIn wsX6_differ (va_wsS RX6 104 yX6_isShelf wsX6_isShelf) := goodIn_app (goodIn_of _ (by decide +kernel)) ggX6_differ_X6_isShelf
set_option maxRecDepth 20000 in
theorem ggX6_differ_X6_takesRow : GoodIn wsX6_differ wsX6_takesRow := goodIn_r _ [15, 3, 16, 17, 18, 19, 20, 21, 22, 6, 23, 1, 24, 4, 5, 7, 8, 9, 10, 11, 52, 53, 54, 55, 56, 57, 58, 59, 60, 61, 62, 63, 64, 65, 66, 67, 68, 69, 70, 71, 72] (by decide +kernel) (by decide +kernel)
set_option maxRecDepth 20000 in
theorem gX6_differ_X6_takesRow : GoodIn wsX6_differ (wsV RX6 210 RX6 yX6_takesRow wsX6_takesRow) := goodIn_app (goodIn_of _ (by decide +kernel)) ggX6_differ_X6_takesRow
set_option maxRecDepth 20000 in
theorem ggX6_differ_X6_sharesOf : GoodIn wsX6_differ wsX6_sharesOf := goodIn_r _ [28, 19, 16, 29, 30, 31, 6, 32, 33, 34, 35, 36, 18, 37, 38, 39, 40, 41, 42, 43, 44, 45, 46, 47, 48, 49, 50, 51, 52, 53, 54, 55, 56, 57, 58, 59, 60, 61, 62, 63, 64, 65, 66, 67, 68, 69, 70, 71, 72] (by decide +kernel) (by decide +kernel)
set_option maxRecDepth 20000 in
theorem gX6_differ_X6_sharesOf : GoodIn wsX6_differ (wsV RX6 219 RX6 yX6_sharesOf wsX6_sharesOf) := goodIn_app (goodIn_of _ (by decide +kernel)) ggX6_differ_X6_sharesOf
set_option maxRecDepth 20000 in
theorem ggX6_differ_X6_amount : GoodIn wsX6_differ wsX6_amount := goodIn_r _ [51] (by decide +kernel) (by decide +kernel)
set_option maxRecDepth 20000 in
theorem gX6_differ_X6_amount : GoodIn wsX6_differ (va_wsS RX6 177 yX6_amount wsX6_amount) := goodIn_app (goodIn_of _ (by decide +kernel)) ggX6_differ_X6_amount
theorem dX6_differ_0 : decode cX6_differ 0 = .ok (.iload_n 1, 1) := by decide +kernel
theorem dX6_differ_1 : decode cX6_differ 1 = .ok (.invokestatic 104, 3) := by decide +kernel
theorem dX6_differ_4 : decode cX6_differ 4 = .ok (.ifCond .eq 10, 3) := by decide +kernel
theorem dX6_differ_7 : decode cX6_differ 7 = .ok (.iload_n 2, 1) := by decide +kernel
theorem dX6_differ_8 : decode cX6_differ 8 = .ok (.invokestatic 104, 3) := by decide +kernel
theorem dX6_differ_11 : decode cX6_differ 11 = .ok (.ifCond .ne 5, 3) := by decide +kernel
theorem dX6_differ_14 : decode cX6_differ 14 = .ok (.iconst (-1), 1) := by decide +kernel
theorem dX6_differ_15 : decode cX6_differ 15 = .ok (.ireturn, 1) := by decide +kernel
theorem dX6_differ_16 : decode cX6_differ 16 = .ok (.aload_n 0, 1) := by decide +kernel
theorem dX6_differ_17 : decode cX6_differ 17 = .ok (.getfield 22, 3) := by decide +kernel
theorem dX6_differ_20 : decode cX6_differ 20 = .ok (.iload_n 1, 1) := by decide +kernel
theorem dX6_differ_21 : decode cX6_differ 21 = .ok (.iaload, 1) := by decide +kernel
theorem dX6_differ_22 : decode cX6_differ 22 = .ok (.ifCond .eq 12, 3) := by decide +kernel
theorem dX6_differ_25 : decode cX6_differ 25 = .ok (.aload_n 0, 1) := by decide +kernel
theorem dX6_differ_26 : decode cX6_differ 26 = .ok (.getfield 22, 3) := by decide +kernel
theorem dX6_differ_29 : decode cX6_differ 29 = .ok (.iload_n 2, 1) := by decide +kernel
theorem dX6_differ_30 : decode cX6_differ 30 = .ok (.iaload, 1) := by decide +kernel
theorem dX6_differ_31 : decode cX6_differ 31 = .ok (.ifCond .ne 6, 3) := by decide +kernel
theorem dX6_differ_34 : decode cX6_differ 34 = .ok (.bipush (-11), 2) := by decide +kernel
theorem dX6_differ_36 : decode cX6_differ 36 = .ok (.ireturn, 1) := by decide +kernel
theorem dX6_differ_37 : decode cX6_differ 37 = .ok (.aload_n 0, 1) := by decide +kernel
theorem dX6_differ_38 : decode cX6_differ 38 = .ok (.getfield 22, 3) := by decide +kernel
theorem dX6_differ_41 : decode cX6_differ 41 = .ok (.iload_n 1, 1) := by decide +kernel
theorem dX6_differ_42 : decode cX6_differ 42 = .ok (.iaload, 1) := by decide +kernel
theorem dX6_differ_43 : decode cX6_differ 43 = .ok (.iconst 2, 1) := by decide +kernel
theorem dX6_differ_44 : decode cX6_differ 44 = .ok (.if_icmp .ne 13, 3) := by decide +kernel
theorem dX6_differ_47 : decode cX6_differ 47 = .ok (.aload_n 0, 1) := by decide +kernel
theorem dX6_differ_48 : decode cX6_differ 48 = .ok (.getfield 22, 3) := by decide +kernel
theorem dX6_differ_51 : decode cX6_differ 51 = .ok (.iload_n 2, 1) := by decide +kernel
theorem dX6_differ_52 : decode cX6_differ 52 = .ok (.iaload, 1) := by decide +kernel
theorem dX6_differ_53 : decode cX6_differ 53 = .ok (.iconst 2, 1) := by decide +kernel
theorem dX6_differ_54 : decode cX6_differ 54 = .ok (.if_icmp .eq 6, 3) := by decide +kernel
theorem dX6_differ_57 : decode cX6_differ 57 = .ok (.bipush (-12), 2) := by decide +kernel
theorem dX6_differ_59 : decode cX6_differ 59 = .ok (.ireturn, 1) := by decide +kernel
theorem dX6_differ_60 : decode cX6_differ 60 = .ok (.aload_n 0, 1) := by decide +kernel
theorem dX6_differ_61 : decode cX6_differ 61 = .ok (.iload_n 1, 1) := by decide +kernel
theorem dX6_differ_62 : decode cX6_differ 62 = .ok (.invokevirtual 210, 3) := by decide +kernel
theorem dX6_differ_65 : decode cX6_differ 65 = .ok (.istore_n 3, 1) := by decide +kernel
theorem dX6_differ_66 : decode cX6_differ 66 = .ok (.iload_n 3, 1) := by decide +kernel
theorem dX6_differ_67 : decode cX6_differ 67 = .ok (.ifCond .eq 5, 3) := by decide +kernel
theorem dX6_differ_70 : decode cX6_differ 70 = .ok (.iload_n 3, 1) := by decide +kernel
theorem dX6_differ_71 : decode cX6_differ 71 = .ok (.ireturn, 1) := by decide +kernel
theorem dX6_differ_72 : decode cX6_differ 72 = .ok (.iconst 0, 1) := by decide +kernel
theorem dX6_differ_73 : decode cX6_differ 73 = .ok (.istore 4, 2) := by decide +kernel
theorem dX6_differ_75 : decode cX6_differ 75 = .ok (.iload 4, 2) := by decide +kernel
theorem dX6_differ_77 : decode cX6_differ 77 = .ok (.bipush 10, 2) := by decide +kernel
theorem dX6_differ_79 : decode cX6_differ 79 = .ok (.if_icmp .ge 22, 3) := by decide +kernel
theorem dX6_differ_82 : decode cX6_differ 82 = .ok (.aload_n 0, 1) := by decide +kernel
theorem dX6_differ_83 : decode cX6_differ 83 = .ok (.getfield 49, 3) := by decide +kernel
theorem dX6_differ_86 : decode cX6_differ 86 = .ok (.iload 4, 2) := by decide +kernel
theorem dX6_differ_88 : decode cX6_differ 88 = .ok (.aload_n 0, 1) := by decide +kernel
theorem dX6_differ_89 : decode cX6_differ 89 = .ok (.iload 4, 2) := by decide +kernel
theorem dX6_differ_91 : decode cX6_differ 91 = .ok (.invokevirtual 219, 3) := by decide +kernel
theorem dX6_differ_94 : decode cX6_differ 94 = .ok (.iastore, 1) := by decide +kernel
theorem dX6_differ_95 : decode cX6_differ 95 = .ok (.iinc 4 1, 3) := by decide +kernel
theorem dX6_differ_98 : decode cX6_differ 98 = .ok (.goto (-23), 3) := by decide +kernel
theorem dX6_differ_101 : decode cX6_differ 101 = .ok (.aload_n 0, 1) := by decide +kernel
theorem dX6_differ_102 : decode cX6_differ 102 = .ok (.iload_n 2, 1) := by decide +kernel
theorem dX6_differ_103 : decode cX6_differ 103 = .ok (.invokevirtual 210, 3) := by decide +kernel
theorem dX6_differ_106 : decode cX6_differ 106 = .ok (.istore_n 3, 1) := by decide +kernel
theorem dX6_differ_107 : decode cX6_differ 107 = .ok (.iload_n 3, 1) := by decide +kernel
theorem dX6_differ_108 : decode cX6_differ 108 = .ok (.ifCond .eq 5, 3) := by decide +kernel
theorem dX6_differ_111 : decode cX6_differ 111 = .ok (.iload_n 3, 1) := by decide +kernel
theorem dX6_differ_112 : decode cX6_differ 112 = .ok (.ireturn, 1) := by decide +kernel
theorem dX6_differ_113 : decode cX6_differ 113 = .ok (.iconst 0, 1) := by decide +kernel
theorem dX6_differ_114 : decode cX6_differ 114 = .ok (.istore 4, 2) := by decide +kernel
theorem dX6_differ_116 : decode cX6_differ 116 = .ok (.iconst 0, 1) := by decide +kernel
theorem dX6_differ_117 : decode cX6_differ 117 = .ok (.istore 5, 2) := by decide +kernel
theorem dX6_differ_119 : decode cX6_differ 119 = .ok (.iload 5, 2) := by decide +kernel
theorem dX6_differ_121 : decode cX6_differ 121 = .ok (.bipush 10, 2) := by decide +kernel
theorem dX6_differ_123 : decode cX6_differ 123 = .ok (.if_icmp .ge 45, 3) := by decide +kernel
theorem dX6_differ_126 : decode cX6_differ 126 = .ok (.iload 4, 2) := by decide +kernel
theorem dX6_differ_128 : decode cX6_differ 128 = .ok (.aload_n 0, 1) := by decide +kernel
theorem dX6_differ_129 : decode cX6_differ 129 = .ok (.getfield 49, 3) := by decide +kernel
theorem dX6_differ_132 : decode cX6_differ 132 = .ok (.iload 5, 2) := by decide +kernel
theorem dX6_differ_134 : decode cX6_differ 134 = .ok (.iaload, 1) := by decide +kernel
theorem dX6_differ_135 : decode cX6_differ 135 = .ok (.aload_n 0, 1) := by decide +kernel
theorem dX6_differ_136 : decode cX6_differ 136 = .ok (.getfield 28, 3) := by decide +kernel
theorem dX6_differ_139 : decode cX6_differ 139 = .ok (.iload_n 2, 1) := by decide +kernel
theorem dX6_differ_140 : decode cX6_differ 140 = .ok (.iaload, 1) := by decide +kernel
theorem dX6_differ_141 : decode cX6_differ 141 = .ok (.imul, 1) := by decide +kernel
theorem dX6_differ_142 : decode cX6_differ 142 = .ok (.aload_n 0, 1) := by decide +kernel
theorem dX6_differ_143 : decode cX6_differ 143 = .ok (.iload 5, 2) := by decide +kernel
theorem dX6_differ_145 : decode cX6_differ 145 = .ok (.invokevirtual 219, 3) := by decide +kernel
theorem dX6_differ_148 : decode cX6_differ 148 = .ok (.aload_n 0, 1) := by decide +kernel
theorem dX6_differ_149 : decode cX6_differ 149 = .ok (.getfield 28, 3) := by decide +kernel
theorem dX6_differ_152 : decode cX6_differ 152 = .ok (.iload_n 1, 1) := by decide +kernel
theorem dX6_differ_153 : decode cX6_differ 153 = .ok (.iaload, 1) := by decide +kernel
theorem dX6_differ_154 : decode cX6_differ 154 = .ok (.imul, 1) := by decide +kernel
theorem dX6_differ_155 : decode cX6_differ 155 = .ok (.isub, 1) := by decide +kernel
theorem dX6_differ_156 : decode cX6_differ 156 = .ok (.invokestatic 177, 3) := by decide +kernel
theorem dX6_differ_159 : decode cX6_differ 159 = .ok (.iadd, 1) := by decide +kernel
theorem dX6_differ_160 : decode cX6_differ 160 = .ok (.istore 4, 2) := by decide +kernel
theorem dX6_differ_162 : decode cX6_differ 162 = .ok (.iinc 5 1, 3) := by decide +kernel
theorem dX6_differ_165 : decode cX6_differ 165 = .ok (.goto (-46), 3) := by decide +kernel
theorem dX6_differ_168 : decode cX6_differ 168 = .ok (.iload 4, 2) := by decide +kernel
theorem dX6_differ_170 : decode cX6_differ 170 = .ok (.ireturn, 1) := by decide +kernel
theorem dX6_leastOf_0 : decode cX6_leastOf 0 = .ok (.aload_n 0, 1) := by decide +kernel
theorem dX6_leastOf_1 : decode cX6_leastOf 1 = .ok (.getfield 25, 3) := by decide +kernel
theorem dX6_leastOf_4 : decode cX6_leastOf 4 = .ok (.iload_n 1, 1) := by decide +kernel
theorem dX6_leastOf_5 : decode cX6_leastOf 5 = .ok (.iaload, 1) := by decide +kernel
theorem dX6_leastOf_6 : decode cX6_leastOf 6 = .ok (.ifCond .ne 8, 3) := by decide +kernel
theorem dX6_leastOf_9 : decode cX6_leastOf 9 = .ok (.bipush (-128), 2) := by decide +kernel
theorem dX6_leastOf_11 : decode cX6_leastOf 11 = .ok (.goto 21, 3) := by decide +kernel
theorem dX6_leastOf_14 : decode cX6_leastOf 14 = .ok (.aload_n 0, 1) := by decide +kernel
theorem dX6_leastOf_15 : decode cX6_leastOf 15 = .ok (.getfield 25, 3) := by decide +kernel
theorem dX6_leastOf_18 : decode cX6_leastOf 18 = .ok (.iload_n 1, 1) := by decide +kernel
theorem dX6_leastOf_19 : decode cX6_leastOf 19 = .ok (.iaload, 1) := by decide +kernel
theorem dX6_leastOf_20 : decode cX6_leastOf 20 = .ok (.iconst 1, 1) := by decide +kernel
theorem dX6_leastOf_21 : decode cX6_leastOf 21 = .ok (.if_icmp .ne 9, 3) := by decide +kernel
theorem dX6_leastOf_24 : decode cX6_leastOf 24 = .ok (.sipush (-32768), 3) := by decide +kernel
theorem dX6_leastOf_27 : decode cX6_leastOf 27 = .ok (.goto 5, 3) := by decide +kernel
theorem dX6_leastOf_30 : decode cX6_leastOf 30 = .ok (.ldc 228, 2) := by decide +kernel
theorem dX6_leastOf_32 : decode cX6_leastOf 32 = .ok (.ireturn, 1) := by decide +kernel
set_option maxRecDepth 20000 in
theorem ggX6_judge_X6_isShelf : GoodIn wsX6_judge wsX6_isShelf := goodIn_r _ [7, 8, 9, 10, 6, 11] (by decide +kernel) (by decide +kernel)
set_option maxRecDepth 20000 in
theorem gX6_judge_X6_isShelf : GoodIn wsX6_judge (va_wsS RX6 104 yX6_isShelf wsX6_isShelf) := goodIn_app (goodIn_of _ (by decide +kernel)) ggX6_judge_X6_isShelf
set_option maxRecDepth 20000 in
theorem ggX6_judge_X6_wrongRow : GoodIn wsX6_judge wsX6_wrongRow := goodIn_r _ [15, 16, 17, 4, 5, 6, 7, 8, 9, 10, 11, 27, 28, 29, 30, 31, 32, 33, 34, 35, 36, 37, 38, 39, 40, 41, 42, 43, 44, 45, 46, 47] (by decide +kernel) (by decide +kernel)
set_option maxRecDepth 20000 in
theorem gX6_judge_X6_wrongRow : GoodIn wsX6_judge (wsV RX6 107 RX6 yX6_wrongRow wsX6_wrongRow) := goodIn_app (goodIn_of _ (by decide +kernel)) ggX6_judge_X6_wrongRow
set_option maxRecDepth 20000 in
theorem ggX6_judge_X6_leastOf : GoodIn wsX6_judge wsX6_leastOf := goodIn_r _ [21, 17, 22, 27, 28, 29, 30, 31, 32, 33, 34, 35, 36, 37, 38, 39, 40, 41, 42, 43, 44, 45, 46, 47] (by decide +kernel) (by decide +kernel)
set_option maxRecDepth 20000 in
theorem gX6_judge_X6_leastOf : GoodIn wsX6_judge (wsV RX6 229 RX6 yX6_leastOf wsX6_leastOf) := goodIn_app (goodIn_of _ (by decide +kernel)) ggX6_judge_X6_leastOf
set_option maxRecDepth 20000 in
theorem ggX6_judge_X6_get : GoodIn wsX6_judge wsX6_get := goodIn_r _ [26, 1, 27, 28, 29, 30, 31, 32, 33, 34, 35, 36, 37, 38, 39, 40, 41, 42, 43, 44, 45, 46, 47] (by decide +kernel) (by decide +kernel)
set_option maxRecDepth 20000 in
theorem gX6_judge_X6_get : GoodIn wsX6_judge (wsV RX6 122 RX6 yX6_get wsX6_get) := goodIn_app (goodIn_of _ (by decide +kernel)) ggX6_judge_X6_get
theorem dX6_judge_0 : decode cX6_judge 0 = .ok (.iload_n 1, 1) := by decide +kernel
theorem dX6_judge_1 : decode cX6_judge 1 = .ok (.invokestatic 104, 3) := by decide +kernel
theorem dX6_judge_4 : decode cX6_judge 4 = .ok (.ifCond .ne 5, 3) := by decide +kernel
theorem dX6_judge_7 : decode cX6_judge 7 = .ok (.iconst (-1), 1) := by decide +kernel
theorem dX6_judge_8 : decode cX6_judge 8 = .ok (.ireturn, 1) := by decide +kernel
theorem dX6_judge_9 : decode cX6_judge 9 = .ok (.aload_n 0, 1) := by decide +kernel
theorem dX6_judge_10 : decode cX6_judge 10 = .ok (.getfield 9, 3) := by decide +kernel
theorem dX6_judge_13 : decode cX6_judge 13 = .ok (.bipush 6, 2) := by decide +kernel
theorem dX6_judge_15 : decode cX6_judge 15 = .ok (.iaload, 1) := by decide +kernel
theorem dX6_judge_16 : decode cX6_judge 16 = .ok (.ifCond .ne 6, 3) := by decide +kernel
theorem dX6_judge_19 : decode cX6_judge 19 = .ok (.bipush (-3), 2) := by decide +kernel
theorem dX6_judge_21 : decode cX6_judge 21 = .ok (.ireturn, 1) := by decide +kernel
theorem dX6_judge_22 : decode cX6_judge 22 = .ok (.aload_n 0, 1) := by decide +kernel
theorem dX6_judge_23 : decode cX6_judge 23 = .ok (.iload_n 1, 1) := by decide +kernel
theorem dX6_judge_24 : decode cX6_judge 24 = .ok (.iconst (-1), 1) := by decide +kernel
theorem dX6_judge_25 : decode cX6_judge 25 = .ok (.invokevirtual 107, 3) := by decide +kernel
theorem dX6_judge_28 : decode cX6_judge 28 = .ok (.istore_n 2, 1) := by decide +kernel
theorem dX6_judge_29 : decode cX6_judge 29 = .ok (.iload_n 2, 1) := by decide +kernel
theorem dX6_judge_30 : decode cX6_judge 30 = .ok (.ifCond .eq 5, 3) := by decide +kernel
theorem dX6_judge_33 : decode cX6_judge 33 = .ok (.iload_n 2, 1) := by decide +kernel
theorem dX6_judge_34 : decode cX6_judge 34 = .ok (.ireturn, 1) := by decide +kernel
theorem dX6_judge_35 : decode cX6_judge 35 = .ok (.iconst 0, 1) := by decide +kernel
theorem dX6_judge_36 : decode cX6_judge 36 = .ok (.istore_n 3, 1) := by decide +kernel
theorem dX6_judge_37 : decode cX6_judge 37 = .ok (.iload_n 3, 1) := by decide +kernel
theorem dX6_judge_38 : decode cX6_judge 38 = .ok (.aload_n 0, 1) := by decide +kernel
theorem dX6_judge_39 : decode cX6_judge 39 = .ok (.getfield 28, 3) := by decide +kernel
theorem dX6_judge_42 : decode cX6_judge 42 = .ok (.iload_n 1, 1) := by decide +kernel
theorem dX6_judge_43 : decode cX6_judge 43 = .ok (.iaload, 1) := by decide +kernel
theorem dX6_judge_44 : decode cX6_judge 44 = .ok (.if_icmp .ge 57, 3) := by decide +kernel
theorem dX6_judge_47 : decode cX6_judge 47 = .ok (.iload_n 3, 1) := by decide +kernel
theorem dX6_judge_48 : decode cX6_judge 48 = .ok (.aload_n 0, 1) := by decide +kernel
theorem dX6_judge_49 : decode cX6_judge 49 = .ok (.getfield 9, 3) := by decide +kernel
theorem dX6_judge_52 : decode cX6_judge 52 = .ok (.iconst 5, 1) := by decide +kernel
theorem dX6_judge_53 : decode cX6_judge 53 = .ok (.iaload, 1) := by decide +kernel
theorem dX6_judge_54 : decode cX6_judge 54 = .ok (.if_icmp .ne 5, 3) := by decide +kernel
theorem dX6_judge_57 : decode cX6_judge 57 = .ok (.iload_n 3, 1) := by decide +kernel
theorem dX6_judge_58 : decode cX6_judge 58 = .ok (.ireturn, 1) := by decide +kernel
theorem dX6_judge_59 : decode cX6_judge 59 = .ok (.aload_n 0, 1) := by decide +kernel
theorem dX6_judge_60 : decode cX6_judge 60 = .ok (.getfield 31, 3) := by decide +kernel
theorem dX6_judge_63 : decode cX6_judge 63 = .ok (.bipush 100, 2) := by decide +kernel
theorem dX6_judge_65 : decode cX6_judge 65 = .ok (.iload_n 1, 1) := by decide +kernel
theorem dX6_judge_66 : decode cX6_judge 66 = .ok (.imul, 1) := by decide +kernel
theorem dX6_judge_67 : decode cX6_judge 67 = .ok (.iload_n 3, 1) := by decide +kernel
theorem dX6_judge_68 : decode cX6_judge 68 = .ok (.iadd, 1) := by decide +kernel
theorem dX6_judge_69 : decode cX6_judge 69 = .ok (.iaload, 1) := by decide +kernel
theorem dX6_judge_70 : decode cX6_judge 70 = .ok (.istore 4, 2) := by decide +kernel
theorem dX6_judge_72 : decode cX6_judge 72 = .ok (.iload 4, 2) := by decide +kernel
theorem dX6_judge_74 : decode cX6_judge 74 = .ok (.aload_n 0, 1) := by decide +kernel
theorem dX6_judge_75 : decode cX6_judge 75 = .ok (.iload_n 1, 1) := by decide +kernel
theorem dX6_judge_76 : decode cX6_judge 76 = .ok (.invokevirtual 229, 3) := by decide +kernel
theorem dX6_judge_79 : decode cX6_judge 79 = .ok (.if_icmp .eq 16, 3) := by decide +kernel
theorem dX6_judge_82 : decode cX6_judge 82 = .ok (.iload 4, 2) := by decide +kernel
theorem dX6_judge_84 : decode cX6_judge 84 = .ok (.aload_n 0, 1) := by decide +kernel
theorem dX6_judge_85 : decode cX6_judge 85 = .ok (.iload_n 3, 1) := by decide +kernel
theorem dX6_judge_86 : decode cX6_judge 86 = .ok (.iconst 3, 1) := by decide +kernel
theorem dX6_judge_87 : decode cX6_judge 87 = .ok (.invokevirtual 122, 3) := by decide +kernel
theorem dX6_judge_90 : decode cX6_judge 90 = .ok (.if_icmp .eq 5, 3) := by decide +kernel
theorem dX6_judge_93 : decode cX6_judge 93 = .ok (.iload_n 3, 1) := by decide +kernel
theorem dX6_judge_94 : decode cX6_judge 94 = .ok (.ireturn, 1) := by decide +kernel
theorem dX6_judge_95 : decode cX6_judge 95 = .ok (.iinc 3 1, 3) := by decide +kernel
theorem dX6_judge_98 : decode cX6_judge 98 = .ok (.goto (-61), 3) := by decide +kernel
theorem dX6_judge_101 : decode cX6_judge 101 = .ok (.bipush (-4), 2) := by decide +kernel
theorem dX6_judge_103 : decode cX6_judge 103 = .ok (.ireturn, 1) := by decide +kernel
set_option maxRecDepth 20000 in
theorem ggX6_ends_X6_isIn : GoodIn wsX6_ends wsX6_isIn := goodIn_r _ [5] (by decide +kernel) (by decide +kernel)
set_option maxRecDepth 20000 in
theorem gX6_ends_X6_isIn : GoodIn wsX6_ends (va_wsS RX6 56 yX6_isIn wsX6_isIn) := goodIn_app (goodIn_of _ (by decide +kernel)) ggX6_ends_X6_isIn
set_option maxRecDepth 20000 in
theorem ggX6_ends_X6_shareOf : GoodIn wsX6_ends wsX6_shareOf := goodIn_r _ [9, 10, 11, 12, 4, 13, 1, 14, 15, 16, 17, 18, 19, 20, 21, 22, 23, 24, 25, 26, 27, 28, 29, 30, 31, 32, 33, 34] (by decide +kernel) (by decide +kernel)
set_option maxRecDepth 20000 in
theorem gX6_ends_X6_shareOf : GoodIn wsX6_ends (wsV RX6 137 RX6 yX6_shareOf wsX6_shareOf) := goodIn_app (goodIn_of _ (by decide +kernel)) ggX6_ends_X6_shareOf
theorem dX6_ends_0 : decode cX6_ends 0 = .ok (.iload_n 1, 1) := by decide +kernel
theorem dX6_ends_1 : decode cX6_ends 1 = .ok (.i2l, 1) := by decide +kernel
theorem dX6_ends_2 : decode cX6_ends 2 = .ok (.lconst 0, 1) := by decide +kernel
theorem dX6_ends_3 : decode cX6_ends 3 = .ok (.lconst 1, 1) := by decide +kernel
theorem dX6_ends_4 : decode cX6_ends 4 = .ok (.invokestatic 56, 3) := by decide +kernel
theorem dX6_ends_7 : decode cX6_ends 7 = .ok (.ifCond .ne 5, 3) := by decide +kernel
theorem dX6_ends_10 : decode cX6_ends 10 = .ok (.iconst (-1), 1) := by decide +kernel
theorem dX6_ends_11 : decode cX6_ends 11 = .ok (.ireturn, 1) := by decide +kernel
theorem dX6_ends_12 : decode cX6_ends 12 = .ok (.aload_n 0, 1) := by decide +kernel
theorem dX6_ends_13 : decode cX6_ends 13 = .ok (.getfield 9, 3) := by decide +kernel
theorem dX6_ends_16 : decode cX6_ends 16 = .ok (.iconst 2, 1) := by decide +kernel
theorem dX6_ends_17 : decode cX6_ends 17 = .ok (.iaload, 1) := by decide +kernel
theorem dX6_ends_18 : decode cX6_ends 18 = .ok (.iconst 2, 1) := by decide +kernel
theorem dX6_ends_19 : decode cX6_ends 19 = .ok (.idiv, 1) := by decide +kernel
theorem dX6_ends_20 : decode cX6_ends 20 = .ok (.istore_n 2, 1) := by decide +kernel
theorem dX6_ends_21 : decode cX6_ends 21 = .ok (.iconst 0, 1) := by decide +kernel
theorem dX6_ends_22 : decode cX6_ends 22 = .ok (.istore_n 3, 1) := by decide +kernel
theorem dX6_ends_23 : decode cX6_ends 23 = .ok (.iload_n 3, 1) := by decide +kernel
theorem dX6_ends_24 : decode cX6_ends 24 = .ok (.bipush 100, 2) := by decide +kernel
theorem dX6_ends_26 : decode cX6_ends 26 = .ok (.if_icmp .gt 47, 3) := by decide +kernel
theorem dX6_ends_29 : decode cX6_ends 29 = .ok (.aload_n 0, 1) := by decide +kernel
theorem dX6_ends_30 : decode cX6_ends 30 = .ok (.iload_n 2, 1) := by decide +kernel
theorem dX6_ends_31 : decode cX6_ends 31 = .ok (.aload_n 0, 1) := by decide +kernel
theorem dX6_ends_32 : decode cX6_ends 32 = .ok (.getfield 9, 3) := by decide +kernel
theorem dX6_ends_35 : decode cX6_ends 35 = .ok (.iconst 0, 1) := by decide +kernel
theorem dX6_ends_36 : decode cX6_ends 36 = .ok (.iaload, 1) := by decide +kernel
theorem dX6_ends_37 : decode cX6_ends 37 = .ok (.aload_n 0, 1) := by decide +kernel
theorem dX6_ends_38 : decode cX6_ends 38 = .ok (.getfield 9, 3) := by decide +kernel
theorem dX6_ends_41 : decode cX6_ends 41 = .ok (.iconst 1, 1) := by decide +kernel
theorem dX6_ends_42 : decode cX6_ends 42 = .ok (.iaload, 1) := by decide +kernel
theorem dX6_ends_43 : decode cX6_ends 43 = .ok (.invokevirtual 137, 3) := by decide +kernel
theorem dX6_ends_46 : decode cX6_ends 46 = .ok (.istore 4, 2) := by decide +kernel
theorem dX6_ends_48 : decode cX6_ends 48 = .ok (.iload 4, 2) := by decide +kernel
theorem dX6_ends_50 : decode cX6_ends 50 = .ok (.iload_n 2, 1) := by decide +kernel
theorem dX6_ends_51 : decode cX6_ends 51 = .ok (.if_icmp .ne 13, 3) := by decide +kernel
theorem dX6_ends_54 : decode cX6_ends 54 = .ok (.iload_n 1, 1) := by decide +kernel
theorem dX6_ends_55 : decode cX6_ends 55 = .ok (.ifCond .ne 7, 3) := by decide +kernel
theorem dX6_ends_58 : decode cX6_ends 58 = .ok (.iload_n 2, 1) := by decide +kernel
theorem dX6_ends_59 : decode cX6_ends 59 = .ok (.goto 4, 3) := by decide +kernel
theorem dX6_ends_62 : decode cX6_ends 62 = .ok (.iload_n 3, 1) := by decide +kernel
theorem dX6_ends_63 : decode cX6_ends 63 = .ok (.ireturn, 1) := by decide +kernel
theorem dX6_ends_64 : decode cX6_ends 64 = .ok (.iload 4, 2) := by decide +kernel
theorem dX6_ends_66 : decode cX6_ends 66 = .ok (.istore_n 2, 1) := by decide +kernel
theorem dX6_ends_67 : decode cX6_ends 67 = .ok (.iinc 3 1, 3) := by decide +kernel
theorem dX6_ends_70 : decode cX6_ends 70 = .ok (.goto (-47), 3) := by decide +kernel
theorem dX6_ends_73 : decode cX6_ends 73 = .ok (.bipush (-4), 2) := by decide +kernel
theorem dX6_ends_75 : decode cX6_ends 75 = .ok (.ireturn, 1) := by decide +kernel
set_option maxRecDepth 20000 in
theorem ggX6_parts_X6_isPerson : GoodIn wsX6_parts wsX6_isPerson := goodIn_r _ [6, 1, 7, 8, 5, 9, 49, 50, 51, 52, 53, 54, 55, 56, 57, 58, 59, 60, 61, 62, 63, 64, 65, 66, 67, 68, 69] (by decide +kernel) (by decide +kernel)
set_option maxRecDepth 20000 in
theorem gX6_parts_X6_isPerson : GoodIn wsX6_parts (wsV RX6 117 RX6 yX6_isPerson wsX6_isPerson) := goodIn_app (goodIn_of _ (by decide +kernel)) ggX6_parts_X6_isPerson
set_option maxRecDepth 20000 in
theorem ggX6_parts_X6_isIn : GoodIn wsX6_parts wsX6_isIn := goodIn_r _ [9] (by decide +kernel) (by decide +kernel)
set_option maxRecDepth 20000 in
theorem gX6_parts_X6_isIn : GoodIn wsX6_parts (va_wsS RX6 56 yX6_isIn wsX6_isIn) := goodIn_app (goodIn_of _ (by decide +kernel)) ggX6_parts_X6_isIn
set_option maxRecDepth 20000 in
theorem ggX6_parts_X6_isDrawn : GoodIn wsX6_parts wsX6_isDrawn := goodIn_r _ [13, 14, 15, 16, 5, 17, 1, 49, 50, 51, 52, 53, 54, 55, 56, 57, 58, 59, 60, 61, 62, 63, 64, 65, 66, 67, 68, 69] (by decide +kernel) (by decide +kernel)
set_option maxRecDepth 20000 in
theorem gX6_parts_X6_isDrawn : GoodIn wsX6_parts (wsV RX6 153 RX6 yX6_isDrawn wsX6_isDrawn) := goodIn_app (goodIn_of _ (by decide +kernel)) ggX6_parts_X6_isDrawn
set_option maxRecDepth 20000 in
theorem ggX6_parts_X6_holdsBy : GoodIn wsX6_parts wsX6_holdsBy := goodIn_r _ [21, 1, 14, 15, 16, 5, 17, 22, 23, 24, 25, 26, 27, 28, 29, 30, 31, 32, 33, 34, 35, 36, 37, 38, 39, 40, 41, 42, 43, 44, 45, 49, 50, 51, 52, 53, 54, 55, 56, 57, 58, 59, 60, 61, 62, 63, 64, 65, 66, 67, 68, 69] (by decide +kernel) (by decide +kernel)
set_option maxRecDepth 20000 in
theorem gX6_parts_X6_holdsBy : GoodIn wsX6_parts (wsV RX6 156 RX6 yX6_holdsBy wsX6_holdsBy) := goodIn_app (goodIn_of _ (by decide +kernel)) ggX6_parts_X6_holdsBy
set_option maxRecDepth 20000 in
theorem ggX6_parts_X6_amount : GoodIn wsX6_parts wsX6_amount := goodIn_r _ [48] (by decide +kernel) (by decide +kernel)
set_option maxRecDepth 20000 in
theorem gX6_parts_X6_amount : GoodIn wsX6_parts (va_wsS RX6 177 yX6_amount wsX6_amount) := goodIn_app (goodIn_of _ (by decide +kernel)) ggX6_parts_X6_amount
theorem dX6_parts_0 : decode cX6_parts 0 = .ok (.aload_n 0, 1) := by decide +kernel
theorem dX6_parts_1 : decode cX6_parts 1 = .ok (.iload_n 1, 1) := by decide +kernel
theorem dX6_parts_2 : decode cX6_parts 2 = .ok (.invokevirtual 117, 3) := by decide +kernel
theorem dX6_parts_5 : decode cX6_parts 5 = .ok (.ifCond .eq 26, 3) := by decide +kernel
theorem dX6_parts_8 : decode cX6_parts 8 = .ok (.aload_n 0, 1) := by decide +kernel
theorem dX6_parts_9 : decode cX6_parts 9 = .ok (.iload_n 2, 1) := by decide +kernel
theorem dX6_parts_10 : decode cX6_parts 10 = .ok (.invokevirtual 117, 3) := by decide +kernel
theorem dX6_parts_13 : decode cX6_parts 13 = .ok (.ifCond .eq 18, 3) := by decide +kernel
theorem dX6_parts_16 : decode cX6_parts 16 = .ok (.iload_n 1, 1) := by decide +kernel
theorem dX6_parts_17 : decode cX6_parts 17 = .ok (.iload_n 2, 1) := by decide +kernel
theorem dX6_parts_18 : decode cX6_parts 18 = .ok (.if_icmp .eq 13, 3) := by decide +kernel
theorem dX6_parts_21 : decode cX6_parts 21 = .ok (.iload_n 3, 1) := by decide +kernel
theorem dX6_parts_22 : decode cX6_parts 22 = .ok (.i2l, 1) := by decide +kernel
theorem dX6_parts_23 : decode cX6_parts 23 = .ok (.lconst 0, 1) := by decide +kernel
theorem dX6_parts_24 : decode cX6_parts 24 = .ok (.lconst 1, 1) := by decide +kernel
theorem dX6_parts_25 : decode cX6_parts 25 = .ok (.invokestatic 56, 3) := by decide +kernel
theorem dX6_parts_28 : decode cX6_parts 28 = .ok (.ifCond .ne 5, 3) := by decide +kernel
theorem dX6_parts_31 : decode cX6_parts 31 = .ok (.iconst (-1), 1) := by decide +kernel
theorem dX6_parts_32 : decode cX6_parts 32 = .ok (.ireturn, 1) := by decide +kernel
theorem dX6_parts_33 : decode cX6_parts 33 = .ok (.aload_n 0, 1) := by decide +kernel
theorem dX6_parts_34 : decode cX6_parts 34 = .ok (.iload_n 1, 1) := by decide +kernel
theorem dX6_parts_35 : decode cX6_parts 35 = .ok (.invokevirtual 153, 3) := by decide +kernel
theorem dX6_parts_38 : decode cX6_parts 38 = .ok (.ifCond .ne 11, 3) := by decide +kernel
theorem dX6_parts_41 : decode cX6_parts 41 = .ok (.aload_n 0, 1) := by decide +kernel
theorem dX6_parts_42 : decode cX6_parts 42 = .ok (.iload_n 2, 1) := by decide +kernel
theorem dX6_parts_43 : decode cX6_parts 43 = .ok (.invokevirtual 153, 3) := by decide +kernel
theorem dX6_parts_46 : decode cX6_parts 46 = .ok (.ifCond .eq 6, 3) := by decide +kernel
theorem dX6_parts_49 : decode cX6_parts 49 = .ok (.bipush (-3), 2) := by decide +kernel
theorem dX6_parts_51 : decode cX6_parts 51 = .ok (.ireturn, 1) := by decide +kernel
theorem dX6_parts_52 : decode cX6_parts 52 = .ok (.iconst 0, 1) := by decide +kernel
theorem dX6_parts_53 : decode cX6_parts 53 = .ok (.istore 4, 2) := by decide +kernel
theorem dX6_parts_55 : decode cX6_parts 55 = .ok (.iconst (-1), 1) := by decide +kernel
theorem dX6_parts_56 : decode cX6_parts 56 = .ok (.istore 5, 2) := by decide +kernel
theorem dX6_parts_58 : decode cX6_parts 58 = .ok (.iconst 0, 1) := by decide +kernel
theorem dX6_parts_59 : decode cX6_parts 59 = .ok (.istore 6, 2) := by decide +kernel
theorem dX6_parts_61 : decode cX6_parts 61 = .ok (.iload 6, 2) := by decide +kernel
theorem dX6_parts_63 : decode cX6_parts 63 = .ok (.bipush 20, 2) := by decide +kernel
theorem dX6_parts_65 : decode cX6_parts 65 = .ok (.if_icmp .gt 59, 3) := by decide +kernel
theorem dX6_parts_68 : decode cX6_parts 68 = .ok (.aload_n 0, 1) := by decide +kernel
theorem dX6_parts_69 : decode cX6_parts 69 = .ok (.iload_n 1, 1) := by decide +kernel
theorem dX6_parts_70 : decode cX6_parts 70 = .ok (.iload 6, 2) := by decide +kernel
theorem dX6_parts_72 : decode cX6_parts 72 = .ok (.aload_n 0, 1) := by decide +kernel
theorem dX6_parts_73 : decode cX6_parts 73 = .ok (.getfield 9, 3) := by decide +kernel
theorem dX6_parts_76 : decode cX6_parts 76 = .ok (.iconst 1, 1) := by decide +kernel
theorem dX6_parts_77 : decode cX6_parts 77 = .ok (.iaload, 1) := by decide +kernel
theorem dX6_parts_78 : decode cX6_parts 78 = .ok (.invokevirtual 156, 3) := by decide +kernel
theorem dX6_parts_81 : decode cX6_parts 81 = .ok (.aload_n 0, 1) := by decide +kernel
theorem dX6_parts_82 : decode cX6_parts 82 = .ok (.iload_n 2, 1) := by decide +kernel
theorem dX6_parts_83 : decode cX6_parts 83 = .ok (.iload 6, 2) := by decide +kernel
theorem dX6_parts_85 : decode cX6_parts 85 = .ok (.aload_n 0, 1) := by decide +kernel
theorem dX6_parts_86 : decode cX6_parts 86 = .ok (.getfield 9, 3) := by decide +kernel
theorem dX6_parts_89 : decode cX6_parts 89 = .ok (.iconst 1, 1) := by decide +kernel
theorem dX6_parts_90 : decode cX6_parts 90 = .ok (.iaload, 1) := by decide +kernel
theorem dX6_parts_91 : decode cX6_parts 91 = .ok (.invokevirtual 156, 3) := by decide +kernel
theorem dX6_parts_94 : decode cX6_parts 94 = .ok (.isub, 1) := by decide +kernel
theorem dX6_parts_95 : decode cX6_parts 95 = .ok (.invokestatic 177, 3) := by decide +kernel
theorem dX6_parts_98 : decode cX6_parts 98 = .ok (.istore 7, 2) := by decide +kernel
theorem dX6_parts_100 : decode cX6_parts 100 = .ok (.iload 7, 2) := by decide +kernel
theorem dX6_parts_102 : decode cX6_parts 102 = .ok (.iload 5, 2) := by decide +kernel
theorem dX6_parts_104 : decode cX6_parts 104 = .ok (.if_icmp .gt 6, 3) := by decide +kernel
theorem dX6_parts_107 : decode cX6_parts 107 = .ok (.goto 11, 3) := by decide +kernel
theorem dX6_parts_110 : decode cX6_parts 110 = .ok (.iload 6, 2) := by decide +kernel
theorem dX6_parts_112 : decode cX6_parts 112 = .ok (.istore 4, 2) := by decide +kernel
theorem dX6_parts_114 : decode cX6_parts 114 = .ok (.iload 7, 2) := by decide +kernel
theorem dX6_parts_116 : decode cX6_parts 116 = .ok (.istore 5, 2) := by decide +kernel
theorem dX6_parts_118 : decode cX6_parts 118 = .ok (.iinc 6 1, 3) := by decide +kernel
theorem dX6_parts_121 : decode cX6_parts 121 = .ok (.goto (-60), 3) := by decide +kernel
theorem dX6_parts_124 : decode cX6_parts 124 = .ok (.iload_n 3, 1) := by decide +kernel
theorem dX6_parts_125 : decode cX6_parts 125 = .ok (.ifCond .ne 8, 3) := by decide +kernel
theorem dX6_parts_128 : decode cX6_parts 128 = .ok (.iload 4, 2) := by decide +kernel
theorem dX6_parts_130 : decode cX6_parts 130 = .ok (.goto 5, 3) := by decide +kernel
theorem dX6_parts_133 : decode cX6_parts 133 = .ok (.iload 5, 2) := by decide +kernel
theorem dX6_parts_135 : decode cX6_parts 135 = .ok (.ireturn, 1) := by decide +kernel
theorem dX6_image_0 : decode cX6_image 0 = .ok (.iconst 0, 1) := by decide +kernel
theorem dX6_image_1 : decode cX6_image 1 = .ok (.istore_n 1, 1) := by decide +kernel
theorem dX6_image_2 : decode cX6_image 2 = .ok (.iload_n 1, 1) := by decide +kernel
theorem dX6_image_3 : decode cX6_image 3 = .ok (.bipush 55, 2) := by decide +kernel
theorem dX6_image_5 : decode cX6_image 5 = .ok (.if_icmp .ge 21, 3) := by decide +kernel
theorem dX6_image_8 : decode cX6_image 8 = .ok (.aload_n 0, 1) := by decide +kernel
theorem dX6_image_9 : decode cX6_image 9 = .ok (.getfield 13, 3) := by decide +kernel
theorem dX6_image_12 : decode cX6_image 12 = .ok (.iload_n 1, 1) := by decide +kernel
theorem dX6_image_13 : decode cX6_image 13 = .ok (.aload_n 0, 1) := by decide +kernel
theorem dX6_image_14 : decode cX6_image 14 = .ok (.getfield 9, 3) := by decide +kernel
theorem dX6_image_17 : decode cX6_image 17 = .ok (.iload_n 1, 1) := by decide +kernel
theorem dX6_image_18 : decode cX6_image 18 = .ok (.iaload, 1) := by decide +kernel
theorem dX6_image_19 : decode cX6_image 19 = .ok (.iastore, 1) := by decide +kernel
theorem dX6_image_20 : decode cX6_image 20 = .ok (.iinc 1 1, 3) := by decide +kernel
theorem dX6_image_23 : decode cX6_image 23 = .ok (.goto (-21), 3) := by decide +kernel
theorem dX6_image_26 : decode cX6_image 26 = .ok (.aload_n 0, 1) := by decide +kernel
theorem dX6_image_27 : decode cX6_image 27 = .ok (.iconst 1, 1) := by decide +kernel
theorem dX6_image_28 : decode cX6_image 28 = .ok (.putfield 232, 3) := by decide +kernel
theorem dX6_image_31 : decode cX6_image 31 = .ok (.aload_n 0, 1) := by decide +kernel
theorem dX6_image_32 : decode cX6_image 32 = .ok (.getfield 9, 3) := by decide +kernel
theorem dX6_image_35 : decode cX6_image 35 = .ok (.iconst 5, 1) := by decide +kernel
theorem dX6_image_36 : decode cX6_image 36 = .ok (.iaload, 1) := by decide +kernel
theorem dX6_image_37 : decode cX6_image 37 = .ok (.ireturn, 1) := by decide +kernel
theorem dX6_restore_0 : decode cX6_restore 0 = .ok (.aload_n 0, 1) := by decide +kernel
theorem dX6_restore_1 : decode cX6_restore 1 = .ok (.getfield 232, 3) := by decide +kernel
theorem dX6_restore_4 : decode cX6_restore 4 = .ok (.ifCond .ne 6, 3) := by decide +kernel
theorem dX6_restore_7 : decode cX6_restore 7 = .ok (.bipush (-3), 2) := by decide +kernel
theorem dX6_restore_9 : decode cX6_restore 9 = .ok (.ireturn, 1) := by decide +kernel
theorem dX6_restore_10 : decode cX6_restore 10 = .ok (.iconst 0, 1) := by decide +kernel
theorem dX6_restore_11 : decode cX6_restore 11 = .ok (.istore_n 1, 1) := by decide +kernel
theorem dX6_restore_12 : decode cX6_restore 12 = .ok (.iload_n 1, 1) := by decide +kernel
theorem dX6_restore_13 : decode cX6_restore 13 = .ok (.bipush 55, 2) := by decide +kernel
theorem dX6_restore_15 : decode cX6_restore 15 = .ok (.if_icmp .ge 21, 3) := by decide +kernel
theorem dX6_restore_18 : decode cX6_restore 18 = .ok (.aload_n 0, 1) := by decide +kernel
theorem dX6_restore_19 : decode cX6_restore 19 = .ok (.getfield 9, 3) := by decide +kernel
theorem dX6_restore_22 : decode cX6_restore 22 = .ok (.iload_n 1, 1) := by decide +kernel
theorem dX6_restore_23 : decode cX6_restore 23 = .ok (.aload_n 0, 1) := by decide +kernel
theorem dX6_restore_24 : decode cX6_restore 24 = .ok (.getfield 13, 3) := by decide +kernel
theorem dX6_restore_27 : decode cX6_restore 27 = .ok (.iload_n 1, 1) := by decide +kernel
theorem dX6_restore_28 : decode cX6_restore 28 = .ok (.iaload, 1) := by decide +kernel
theorem dX6_restore_29 : decode cX6_restore 29 = .ok (.iastore, 1) := by decide +kernel
theorem dX6_restore_30 : decode cX6_restore 30 = .ok (.iinc 1 1, 3) := by decide +kernel
theorem dX6_restore_33 : decode cX6_restore 33 = .ok (.goto (-21), 3) := by decide +kernel
theorem dX6_restore_36 : decode cX6_restore 36 = .ok (.aload_n 0, 1) := by decide +kernel
theorem dX6_restore_37 : decode cX6_restore 37 = .ok (.getfield 9, 3) := by decide +kernel
theorem dX6_restore_40 : decode cX6_restore 40 = .ok (.iconst 5, 1) := by decide +kernel
theorem dX6_restore_41 : decode cX6_restore 41 = .ok (.iaload, 1) := by decide +kernel
theorem dX6_restore_42 : decode cX6_restore 42 = .ok (.ireturn, 1) := by decide +kernel
set_option maxRecDepth 20000 in
theorem ggX6_count_X6_get : GoodIn wsX6_count wsX6_get := goodIn_r _ [6, 1, 7, 8, 9, 10, 11, 12, 13, 14, 15, 16, 17, 18, 19, 20, 21, 22, 23, 24, 25, 26, 27] (by decide +kernel) (by decide +kernel)
set_option maxRecDepth 20000 in
theorem gX6_count_X6_get : GoodIn wsX6_count (wsV RX6 122 RX6 yX6_get wsX6_get) := goodIn_app (goodIn_of _ (by decide +kernel)) ggX6_count_X6_get
theorem dX6_count_0 : decode cX6_count 0 = .ok (.iconst 0, 1) := by decide +kernel
theorem dX6_count_1 : decode cX6_count 1 = .ok (.istore_n 2, 1) := by decide +kernel
theorem dX6_count_2 : decode cX6_count 2 = .ok (.iload_n 1, 1) := by decide +kernel
theorem dX6_count_3 : decode cX6_count 3 = .ok (.tableswitch 90 0 5 #[37, 44, 52, 52, 52, 61], 37) := by decide +kernel
theorem dX6_count_40 : decode cX6_count 40 = .ok (.aload_n 0, 1) := by decide +kernel
theorem dX6_count_41 : decode cX6_count 41 = .ok (.getfield 9, 3) := by decide +kernel
theorem dX6_count_44 : decode cX6_count 44 = .ok (.iconst 5, 1) := by decide +kernel
theorem dX6_count_45 : decode cX6_count 45 = .ok (.iaload, 1) := by decide +kernel
theorem dX6_count_46 : decode cX6_count 46 = .ok (.ireturn, 1) := by decide +kernel
theorem dX6_count_47 : decode cX6_count 47 = .ok (.aload_n 0, 1) := by decide +kernel
theorem dX6_count_48 : decode cX6_count 48 = .ok (.getfield 9, 3) := by decide +kernel
theorem dX6_count_51 : decode cX6_count 51 = .ok (.bipush 6, 2) := by decide +kernel
theorem dX6_count_53 : decode cX6_count 53 = .ok (.iaload, 1) := by decide +kernel
theorem dX6_count_54 : decode cX6_count 54 = .ok (.ireturn, 1) := by decide +kernel
theorem dX6_count_55 : decode cX6_count 55 = .ok (.aload_n 0, 1) := by decide +kernel
theorem dX6_count_56 : decode cX6_count 56 = .ok (.getfield 9, 3) := by decide +kernel
theorem dX6_count_59 : decode cX6_count 59 = .ok (.iload_n 1, 1) := by decide +kernel
theorem dX6_count_60 : decode cX6_count 60 = .ok (.iconst 2, 1) := by decide +kernel
theorem dX6_count_61 : decode cX6_count 61 = .ok (.isub, 1) := by decide +kernel
theorem dX6_count_62 : decode cX6_count 62 = .ok (.iaload, 1) := by decide +kernel
theorem dX6_count_63 : decode cX6_count 63 = .ok (.ireturn, 1) := by decide +kernel
theorem dX6_count_64 : decode cX6_count 64 = .ok (.iconst 0, 1) := by decide +kernel
theorem dX6_count_65 : decode cX6_count 65 = .ok (.istore_n 3, 1) := by decide +kernel
theorem dX6_count_66 : decode cX6_count 66 = .ok (.iload_n 3, 1) := by decide +kernel
theorem dX6_count_67 : decode cX6_count 67 = .ok (.aload_n 0, 1) := by decide +kernel
theorem dX6_count_68 : decode cX6_count 68 = .ok (.getfield 9, 3) := by decide +kernel
theorem dX6_count_71 : decode cX6_count 71 = .ok (.iconst 5, 1) := by decide +kernel
theorem dX6_count_72 : decode cX6_count 72 = .ok (.iaload, 1) := by decide +kernel
theorem dX6_count_73 : decode cX6_count 73 = .ok (.if_icmp .ge 18, 3) := by decide +kernel
theorem dX6_count_76 : decode cX6_count 76 = .ok (.iload_n 2, 1) := by decide +kernel
theorem dX6_count_77 : decode cX6_count 77 = .ok (.aload_n 0, 1) := by decide +kernel
theorem dX6_count_78 : decode cX6_count 78 = .ok (.iload_n 3, 1) := by decide +kernel
theorem dX6_count_79 : decode cX6_count 79 = .ok (.iconst 1, 1) := by decide +kernel
theorem dX6_count_80 : decode cX6_count 80 = .ok (.invokevirtual 122, 3) := by decide +kernel
theorem dX6_count_83 : decode cX6_count 83 = .ok (.iadd, 1) := by decide +kernel
theorem dX6_count_84 : decode cX6_count 84 = .ok (.istore_n 2, 1) := by decide +kernel
theorem dX6_count_85 : decode cX6_count 85 = .ok (.iinc 3 1, 3) := by decide +kernel
theorem dX6_count_88 : decode cX6_count 88 = .ok (.goto (-22), 3) := by decide +kernel
theorem dX6_count_91 : decode cX6_count 91 = .ok (.iload_n 2, 1) := by decide +kernel
theorem dX6_count_92 : decode cX6_count 92 = .ok (.ireturn, 1) := by decide +kernel
theorem dX6_count_93 : decode cX6_count 93 = .ok (.iconst (-1), 1) := by decide +kernel
theorem dX6_count_94 : decode cX6_count 94 = .ok (.ireturn, 1) := by decide +kernel
set_option maxRecDepth 20000 in
theorem ggX6_depthOf_X6_get : GoodIn wsX6_depthOf wsX6_get := goodIn_r _ [5, 6, 7, 8, 9, 10, 11, 12, 13, 14, 15, 16, 17, 18, 19, 20, 21, 22, 23, 24, 25, 26, 27] (by decide +kernel) (by decide +kernel)
set_option maxRecDepth 20000 in
theorem gX6_depthOf_X6_get : GoodIn wsX6_depthOf (wsV RX6 122 RX6 yX6_get wsX6_get) := goodIn_app (goodIn_of _ (by decide +kernel)) ggX6_depthOf_X6_get
theorem dX6_depthOf_0 : decode cX6_depthOf 0 = .ok (.aload_n 0, 1) := by decide +kernel
theorem dX6_depthOf_1 : decode cX6_depthOf 1 = .ok (.iload_n 1, 1) := by decide +kernel
theorem dX6_depthOf_2 : decode cX6_depthOf 2 = .ok (.iconst 1, 1) := by decide +kernel
theorem dX6_depthOf_3 : decode cX6_depthOf 3 = .ok (.invokevirtual 122, 3) := by decide +kernel
theorem dX6_depthOf_6 : decode cX6_depthOf 6 = .ok (.istore_n 2, 1) := by decide +kernel
theorem dX6_depthOf_7 : decode cX6_depthOf 7 = .ok (.aload_n 0, 1) := by decide +kernel
theorem dX6_depthOf_8 : decode cX6_depthOf 8 = .ok (.iload_n 1, 1) := by decide +kernel
theorem dX6_depthOf_9 : decode cX6_depthOf 9 = .ok (.iconst 2, 1) := by decide +kernel
theorem dX6_depthOf_10 : decode cX6_depthOf 10 = .ok (.invokevirtual 122, 3) := by decide +kernel
theorem dX6_depthOf_13 : decode cX6_depthOf 13 = .ok (.istore_n 3, 1) := by decide +kernel
theorem dX6_depthOf_14 : decode cX6_depthOf 14 = .ok (.aload_n 0, 1) := by decide +kernel
theorem dX6_depthOf_15 : decode cX6_depthOf 15 = .ok (.iload_n 1, 1) := by decide +kernel
theorem dX6_depthOf_16 : decode cX6_depthOf 16 = .ok (.iconst 0, 1) := by decide +kernel
theorem dX6_depthOf_17 : decode cX6_depthOf 17 = .ok (.invokevirtual 122, 3) := by decide +kernel
theorem dX6_depthOf_20 : decode cX6_depthOf 20 = .ok (.tableswitch 85 1 7 #[44, 48, 55, 64, 67, 71, 79], 44) := by decide +kernel
theorem dX6_depthOf_64 : decode cX6_depthOf 64 = .ok (.iconst 1, 1) := by decide +kernel
theorem dX6_depthOf_65 : decode cX6_depthOf 65 = .ok (.iload_n 3, 1) := by decide +kernel
theorem dX6_depthOf_66 : decode cX6_depthOf 66 = .ok (.iadd, 1) := by decide +kernel
theorem dX6_depthOf_67 : decode cX6_depthOf 67 = .ok (.ireturn, 1) := by decide +kernel
theorem dX6_depthOf_68 : decode cX6_depthOf 68 = .ok (.iconst 1, 1) := by decide +kernel
theorem dX6_depthOf_69 : decode cX6_depthOf 69 = .ok (.bipush 10, 2) := by decide +kernel
theorem dX6_depthOf_71 : decode cX6_depthOf 71 = .ok (.iload_n 2, 1) := by decide +kernel
theorem dX6_depthOf_72 : decode cX6_depthOf 72 = .ok (.imul, 1) := by decide +kernel
theorem dX6_depthOf_73 : decode cX6_depthOf 73 = .ok (.iadd, 1) := by decide +kernel
theorem dX6_depthOf_74 : decode cX6_depthOf 74 = .ok (.ireturn, 1) := by decide +kernel
theorem dX6_depthOf_75 : decode cX6_depthOf 75 = .ok (.iconst 2, 1) := by decide +kernel
theorem dX6_depthOf_76 : decode cX6_depthOf 76 = .ok (.iconst 1, 1) := by decide +kernel
theorem dX6_depthOf_77 : decode cX6_depthOf 77 = .ok (.bipush 10, 2) := by decide +kernel
theorem dX6_depthOf_79 : decode cX6_depthOf 79 = .ok (.iload_n 2, 1) := by decide +kernel
theorem dX6_depthOf_80 : decode cX6_depthOf 80 = .ok (.imul, 1) := by decide +kernel
theorem dX6_depthOf_81 : decode cX6_depthOf 81 = .ok (.iadd, 1) := by decide +kernel
theorem dX6_depthOf_82 : decode cX6_depthOf 82 = .ok (.imul, 1) := by decide +kernel
theorem dX6_depthOf_83 : decode cX6_depthOf 83 = .ok (.ireturn, 1) := by decide +kernel
theorem dX6_depthOf_84 : decode cX6_depthOf 84 = .ok (.bipush 91, 2) := by decide +kernel
theorem dX6_depthOf_86 : decode cX6_depthOf 86 = .ok (.ireturn, 1) := by decide +kernel
theorem dX6_depthOf_87 : decode cX6_depthOf 87 = .ok (.iconst 1, 1) := by decide +kernel
theorem dX6_depthOf_88 : decode cX6_depthOf 88 = .ok (.iload_n 3, 1) := by decide +kernel
theorem dX6_depthOf_89 : decode cX6_depthOf 89 = .ok (.isub, 1) := by decide +kernel
theorem dX6_depthOf_90 : decode cX6_depthOf 90 = .ok (.ireturn, 1) := by decide +kernel
theorem dX6_depthOf_91 : decode cX6_depthOf 91 = .ok (.bipush 6, 2) := by decide +kernel
theorem dX6_depthOf_93 : decode cX6_depthOf 93 = .ok (.bipush 10, 2) := by decide +kernel
theorem dX6_depthOf_95 : decode cX6_depthOf 95 = .ok (.iload_n 2, 1) := by decide +kernel
theorem dX6_depthOf_96 : decode cX6_depthOf 96 = .ok (.imul, 1) := by decide +kernel
theorem dX6_depthOf_97 : decode cX6_depthOf 97 = .ok (.iadd, 1) := by decide +kernel
theorem dX6_depthOf_98 : decode cX6_depthOf 98 = .ok (.ireturn, 1) := by decide +kernel
theorem dX6_depthOf_99 : decode cX6_depthOf 99 = .ok (.iconst 1, 1) := by decide +kernel
theorem dX6_depthOf_100 : decode cX6_depthOf 100 = .ok (.iload_n 3, 1) := by decide +kernel
theorem dX6_depthOf_101 : decode cX6_depthOf 101 = .ok (.iadd, 1) := by decide +kernel
theorem dX6_depthOf_102 : decode cX6_depthOf 102 = .ok (.iconst 2, 1) := by decide +kernel
theorem dX6_depthOf_103 : decode cX6_depthOf 103 = .ok (.idiv, 1) := by decide +kernel
theorem dX6_depthOf_104 : decode cX6_depthOf 104 = .ok (.ireturn, 1) := by decide +kernel
theorem dX6_depthOf_105 : decode cX6_depthOf 105 = .ok (.iconst 1, 1) := by decide +kernel
theorem dX6_depthOf_106 : decode cX6_depthOf 106 = .ok (.ireturn, 1) := by decide +kernel
set_option maxRecDepth 20000 in
theorem ggX6_keep_X6_isShelf : GoodIn wsX6_keep wsX6_isShelf := goodIn_r _ [7, 8, 9, 10, 6, 11] (by decide +kernel) (by decide +kernel)
set_option maxRecDepth 20000 in
theorem gX6_keep_X6_isShelf : GoodIn wsX6_keep (va_wsS RX6 104 yX6_isShelf wsX6_isShelf) := goodIn_app (goodIn_of _ (by decide +kernel)) ggX6_keep_X6_isShelf
set_option maxRecDepth 20000 in
theorem ggX6_keep_X6_isIn : GoodIn wsX6_keep wsX6_isIn := goodIn_r _ [11] (by decide +kernel) (by decide +kernel)
set_option maxRecDepth 20000 in
theorem gX6_keep_X6_isIn : GoodIn wsX6_keep (va_wsS RX6 56 yX6_isIn wsX6_isIn) := goodIn_app (goodIn_of _ (by decide +kernel)) ggX6_keep_X6_isIn
set_option maxRecDepth 20000 in
theorem ggX6_keep_X6_isPerson : GoodIn wsX6_keep wsX6_isPerson := goodIn_r _ [15, 16, 9, 10, 6, 11, 25, 26, 27, 28, 29, 30, 31, 32, 33, 34, 35, 36, 37, 38, 39, 40, 41, 42, 43, 44, 45] (by decide +kernel) (by decide +kernel)
set_option maxRecDepth 20000 in
theorem gX6_keep_X6_isPerson : GoodIn wsX6_keep (wsV RX6 117 RX6 yX6_isPerson wsX6_isPerson) := goodIn_app (goodIn_of _ (by decide +kernel)) ggX6_keep_X6_isPerson
set_option maxRecDepth 20000 in
theorem ggX6_keep_X6_get : GoodIn wsX6_keep wsX6_get := goodIn_r _ [20, 16, 25, 26, 27, 28, 29, 30, 31, 32, 33, 34, 35, 36, 37, 38, 39, 40, 41, 42, 43, 44, 45] (by decide +kernel) (by decide +kernel)
set_option maxRecDepth 20000 in
theorem gX6_keep_X6_get : GoodIn wsX6_keep (wsV RX6 122 RX6 yX6_get wsX6_get) := goodIn_app (goodIn_of _ (by decide +kernel)) ggX6_keep_X6_get
set_option maxRecDepth 20000 in
theorem ggX6_keep_X6_depthOf : GoodIn wsX6_keep wsX6_depthOf := goodIn_r _ [24, 17, 18, 19, 6, 20, 16, 25, 26, 27, 28, 29, 30, 31, 32, 33, 34, 35, 36, 37, 38, 39, 40, 41, 42, 43, 44, 45] (by decide +kernel) (by decide +kernel)
set_option maxRecDepth 20000 in
theorem gX6_keep_X6_depthOf : GoodIn wsX6_keep (wsV RX6 236 RX6 yX6_depthOf wsX6_depthOf) := goodIn_app (goodIn_of _ (by decide +kernel)) ggX6_keep_X6_depthOf
theorem dX6_keep_0 : decode cX6_keep 0 = .ok (.iload_n 1, 1) := by decide +kernel
theorem dX6_keep_1 : decode cX6_keep 1 = .ok (.invokestatic 104, 3) := by decide +kernel
theorem dX6_keep_4 : decode cX6_keep 4 = .ok (.ifCond .eq 26, 3) := by decide +kernel
theorem dX6_keep_7 : decode cX6_keep 7 = .ok (.iload_n 2, 1) := by decide +kernel
theorem dX6_keep_8 : decode cX6_keep 8 = .ok (.i2l, 1) := by decide +kernel
theorem dX6_keep_9 : decode cX6_keep 9 = .ok (.lconst 0, 1) := by decide +kernel
theorem dX6_keep_10 : decode cX6_keep 10 = .ok (.lconst 1, 1) := by decide +kernel
theorem dX6_keep_11 : decode cX6_keep 11 = .ok (.invokestatic 56, 3) := by decide +kernel
theorem dX6_keep_14 : decode cX6_keep 14 = .ok (.ifCond .eq 16, 3) := by decide +kernel
theorem dX6_keep_17 : decode cX6_keep 17 = .ok (.iload_n 2, 1) := by decide +kernel
theorem dX6_keep_18 : decode cX6_keep 18 = .ok (.iconst 1, 1) := by decide +kernel
theorem dX6_keep_19 : decode cX6_keep 19 = .ok (.if_icmp .ne 13, 3) := by decide +kernel
theorem dX6_keep_22 : decode cX6_keep 22 = .ok (.aload_n 0, 1) := by decide +kernel
theorem dX6_keep_23 : decode cX6_keep 23 = .ok (.iload_n 3, 1) := by decide +kernel
theorem dX6_keep_24 : decode cX6_keep 24 = .ok (.invokevirtual 117, 3) := by decide +kernel
theorem dX6_keep_27 : decode cX6_keep 27 = .ok (.ifCond .ne 5, 3) := by decide +kernel
theorem dX6_keep_30 : decode cX6_keep 30 = .ok (.iconst (-1), 1) := by decide +kernel
theorem dX6_keep_31 : decode cX6_keep 31 = .ok (.ireturn, 1) := by decide +kernel
theorem dX6_keep_32 : decode cX6_keep 32 = .ok (.aload_n 0, 1) := by decide +kernel
theorem dX6_keep_33 : decode cX6_keep 33 = .ok (.getfield 22, 3) := by decide +kernel
theorem dX6_keep_36 : decode cX6_keep 36 = .ok (.iload_n 1, 1) := by decide +kernel
theorem dX6_keep_37 : decode cX6_keep 37 = .ok (.iload_n 2, 1) := by decide +kernel
theorem dX6_keep_38 : decode cX6_keep 38 = .ok (.iastore, 1) := by decide +kernel
theorem dX6_keep_39 : decode cX6_keep 39 = .ok (.iload_n 2, 1) := by decide +kernel
theorem dX6_keep_40 : decode cX6_keep 40 = .ok (.ifCond .ne 5, 3) := by decide +kernel
theorem dX6_keep_43 : decode cX6_keep 43 = .ok (.iconst 0, 1) := by decide +kernel
theorem dX6_keep_44 : decode cX6_keep 44 = .ok (.ireturn, 1) := by decide +kernel
theorem dX6_keep_45 : decode cX6_keep 45 = .ok (.aload_n 0, 1) := by decide +kernel
theorem dX6_keep_46 : decode cX6_keep 46 = .ok (.iload_n 3, 1) := by decide +kernel
theorem dX6_keep_47 : decode cX6_keep 47 = .ok (.iconst 0, 1) := by decide +kernel
theorem dX6_keep_48 : decode cX6_keep 48 = .ok (.invokevirtual 122, 3) := by decide +kernel
theorem dX6_keep_51 : decode cX6_keep 51 = .ok (.istore 4, 2) := by decide +kernel
theorem dX6_keep_53 : decode cX6_keep 53 = .ok (.aload_n 0, 1) := by decide +kernel
theorem dX6_keep_54 : decode cX6_keep 54 = .ok (.getfield 34, 3) := by decide +kernel
theorem dX6_keep_57 : decode cX6_keep 57 = .ok (.iload_n 1, 1) := by decide +kernel
theorem dX6_keep_58 : decode cX6_keep 58 = .ok (.aload_n 0, 1) := by decide +kernel
theorem dX6_keep_59 : decode cX6_keep 59 = .ok (.iload_n 3, 1) := by decide +kernel
theorem dX6_keep_60 : decode cX6_keep 60 = .ok (.invokevirtual 236, 3) := by decide +kernel
theorem dX6_keep_63 : decode cX6_keep 63 = .ok (.iastore, 1) := by decide +kernel
theorem dX6_keep_64 : decode cX6_keep 64 = .ok (.aload_n 0, 1) := by decide +kernel
theorem dX6_keep_65 : decode cX6_keep 65 = .ok (.getfield 37, 3) := by decide +kernel
theorem dX6_keep_68 : decode cX6_keep 68 = .ok (.iload_n 1, 1) := by decide +kernel
theorem dX6_keep_69 : decode cX6_keep 69 = .ok (.iload 4, 2) := by decide +kernel
theorem dX6_keep_71 : decode cX6_keep 71 = .ok (.iconst 4, 1) := by decide +kernel
theorem dX6_keep_72 : decode cX6_keep 72 = .ok (.if_icmp .eq 18, 3) := by decide +kernel
theorem dX6_keep_75 : decode cX6_keep 75 = .ok (.iload 4, 2) := by decide +kernel
theorem dX6_keep_77 : decode cX6_keep 77 = .ok (.iconst 5, 1) := by decide +kernel
theorem dX6_keep_78 : decode cX6_keep 78 = .ok (.if_icmp .eq 12, 3) := by decide +kernel
theorem dX6_keep_81 : decode cX6_keep 81 = .ok (.aload_n 0, 1) := by decide +kernel
theorem dX6_keep_82 : decode cX6_keep 82 = .ok (.iload_n 3, 1) := by decide +kernel
theorem dX6_keep_83 : decode cX6_keep 83 = .ok (.iconst 1, 1) := by decide +kernel
theorem dX6_keep_84 : decode cX6_keep 84 = .ok (.invokevirtual 122, 3) := by decide +kernel
theorem dX6_keep_87 : decode cX6_keep 87 = .ok (.ifCond .ne 8, 3) := by decide +kernel
theorem dX6_keep_90 : decode cX6_keep 90 = .ok (.bipush (-15), 2) := by decide +kernel
theorem dX6_keep_92 : decode cX6_keep 92 = .ok (.goto 36, 3) := by decide +kernel
theorem dX6_keep_95 : decode cX6_keep 95 = .ok (.iload 4, 2) := by decide +kernel
theorem dX6_keep_97 : decode cX6_keep 97 = .ok (.iconst 3, 1) := by decide +kernel
theorem dX6_keep_98 : decode cX6_keep 98 = .ok (.if_icmp .ne 10, 3) := by decide +kernel
theorem dX6_keep_101 : decode cX6_keep 101 = .ok (.bipush 100, 2) := by decide +kernel
theorem dX6_keep_103 : decode cX6_keep 103 = .ok (.iload_n 3, 1) := by decide +kernel
theorem dX6_keep_104 : decode cX6_keep 104 = .ok (.iadd, 1) := by decide +kernel
theorem dX6_keep_105 : decode cX6_keep 105 = .ok (.goto 23, 3) := by decide +kernel
theorem dX6_keep_108 : decode cX6_keep 108 = .ok (.iload 4, 2) := by decide +kernel
theorem dX6_keep_110 : decode cX6_keep 110 = .ok (.bipush 6, 2) := by decide +kernel
theorem dX6_keep_112 : decode cX6_keep 112 = .ok (.if_icmp .ne 15, 3) := by decide +kernel
theorem dX6_keep_115 : decode cX6_keep 115 = .ok (.sipush 200, 3) := by decide +kernel
theorem dX6_keep_118 : decode cX6_keep 118 = .ok (.aload_n 0, 1) := by decide +kernel
theorem dX6_keep_119 : decode cX6_keep 119 = .ok (.iload_n 3, 1) := by decide +kernel
theorem dX6_keep_120 : decode cX6_keep 120 = .ok (.invokevirtual 236, 3) := by decide +kernel
theorem dX6_keep_123 : decode cX6_keep 123 = .ok (.iadd, 1) := by decide +kernel
theorem dX6_keep_124 : decode cX6_keep 124 = .ok (.goto 4, 3) := by decide +kernel
theorem dX6_keep_127 : decode cX6_keep 127 = .ok (.iload_n 3, 1) := by decide +kernel
theorem dX6_keep_128 : decode cX6_keep 128 = .ok (.iastore, 1) := by decide +kernel
theorem dX6_keep_129 : decode cX6_keep 129 = .ok (.iconst 0, 1) := by decide +kernel
theorem dX6_keep_130 : decode cX6_keep 130 = .ok (.ireturn, 1) := by decide +kernel
set_option maxRecDepth 20000 in
theorem ggX6_row_X6_isShelf : GoodIn wsX6_row wsX6_isShelf := goodIn_r _ [9, 10, 11, 12, 8, 13] (by decide +kernel) (by decide +kernel)
set_option maxRecDepth 20000 in
theorem gX6_row_X6_isShelf : GoodIn wsX6_row (va_wsS RX6 104 yX6_isShelf wsX6_isShelf) := goodIn_app (goodIn_of _ (by decide +kernel)) ggX6_row_X6_isShelf
set_option maxRecDepth 20000 in
theorem ggX6_row_X6_isIn : GoodIn wsX6_row wsX6_isIn := goodIn_r _ [13] (by decide +kernel) (by decide +kernel)
set_option maxRecDepth 20000 in
theorem gX6_row_X6_isIn : GoodIn wsX6_row (va_wsS RX6 56 yX6_isIn wsX6_isIn) := goodIn_app (goodIn_of _ (by decide +kernel)) ggX6_row_X6_isIn
theorem dX6_row_0 : decode cX6_row 0 = .ok (.iload_n 1, 1) := by decide +kernel
theorem dX6_row_1 : decode cX6_row 1 = .ok (.invokestatic 104, 3) := by decide +kernel
theorem dX6_row_4 : decode cX6_row 4 = .ok (.ifCond .eq 21, 3) := by decide +kernel
theorem dX6_row_7 : decode cX6_row 7 = .ok (.iload_n 2, 1) := by decide +kernel
theorem dX6_row_8 : decode cX6_row 8 = .ok (.i2l, 1) := by decide +kernel
theorem dX6_row_9 : decode cX6_row 9 = .ok (.lconst 0, 1) := by decide +kernel
theorem dX6_row_10 : decode cX6_row 10 = .ok (.ldc2_w 190, 3) := by decide +kernel
theorem dX6_row_13 : decode cX6_row 13 = .ok (.invokestatic 56, 3) := by decide +kernel
theorem dX6_row_16 : decode cX6_row 16 = .ok (.ifCond .eq 9, 3) := by decide +kernel
theorem dX6_row_19 : decode cX6_row 19 = .ok (.iload_n 3, 1) := by decide +kernel
theorem dX6_row_20 : decode cX6_row 20 = .ok (.bipush 100, 2) := by decide +kernel
theorem dX6_row_22 : decode cX6_row 22 = .ok (.if_icmp .le 5, 3) := by decide +kernel
theorem dX6_row_25 : decode cX6_row 25 = .ok (.iconst (-1), 1) := by decide +kernel
theorem dX6_row_26 : decode cX6_row 26 = .ok (.ireturn, 1) := by decide +kernel
theorem dX6_row_27 : decode cX6_row 27 = .ok (.iload_n 3, 1) := by decide +kernel
theorem dX6_row_28 : decode cX6_row 28 = .ok (.ifCond .ge 6, 3) := by decide +kernel
theorem dX6_row_31 : decode cX6_row 31 = .ok (.bipush (-14), 2) := by decide +kernel
theorem dX6_row_33 : decode cX6_row 33 = .ok (.ireturn, 1) := by decide +kernel
theorem dX6_row_34 : decode cX6_row 34 = .ok (.aload_n 0, 1) := by decide +kernel
theorem dX6_row_35 : decode cX6_row 35 = .ok (.getfield 22, 3) := by decide +kernel
theorem dX6_row_38 : decode cX6_row 38 = .ok (.iload_n 1, 1) := by decide +kernel
theorem dX6_row_39 : decode cX6_row 39 = .ok (.iconst 2, 1) := by decide +kernel
theorem dX6_row_40 : decode cX6_row 40 = .ok (.iastore, 1) := by decide +kernel
theorem dX6_row_41 : decode cX6_row 41 = .ok (.aload_n 0, 1) := by decide +kernel
theorem dX6_row_42 : decode cX6_row 42 = .ok (.getfield 25, 3) := by decide +kernel
theorem dX6_row_45 : decode cX6_row 45 = .ok (.iload_n 1, 1) := by decide +kernel
theorem dX6_row_46 : decode cX6_row 46 = .ok (.iload_n 2, 1) := by decide +kernel
theorem dX6_row_47 : decode cX6_row 47 = .ok (.iastore, 1) := by decide +kernel
theorem dX6_row_48 : decode cX6_row 48 = .ok (.aload_n 0, 1) := by decide +kernel
theorem dX6_row_49 : decode cX6_row 49 = .ok (.getfield 28, 3) := by decide +kernel
theorem dX6_row_52 : decode cX6_row 52 = .ok (.iload_n 1, 1) := by decide +kernel
theorem dX6_row_53 : decode cX6_row 53 = .ok (.iload_n 3, 1) := by decide +kernel
theorem dX6_row_54 : decode cX6_row 54 = .ok (.iastore, 1) := by decide +kernel
theorem dX6_row_55 : decode cX6_row 55 = .ok (.iconst 0, 1) := by decide +kernel
theorem dX6_row_56 : decode cX6_row 56 = .ok (.istore 4, 2) := by decide +kernel
theorem dX6_row_58 : decode cX6_row 58 = .ok (.iload 4, 2) := by decide +kernel
theorem dX6_row_60 : decode cX6_row 60 = .ok (.bipush 100, 2) := by decide +kernel
theorem dX6_row_62 : decode cX6_row 62 = .ok (.if_icmp .ge 22, 3) := by decide +kernel
theorem dX6_row_65 : decode cX6_row 65 = .ok (.aload_n 0, 1) := by decide +kernel
theorem dX6_row_66 : decode cX6_row 66 = .ok (.getfield 31, 3) := by decide +kernel
theorem dX6_row_69 : decode cX6_row 69 = .ok (.bipush 100, 2) := by decide +kernel
theorem dX6_row_71 : decode cX6_row 71 = .ok (.iload_n 1, 1) := by decide +kernel
theorem dX6_row_72 : decode cX6_row 72 = .ok (.imul, 1) := by decide +kernel
theorem dX6_row_73 : decode cX6_row 73 = .ok (.iload 4, 2) := by decide +kernel
theorem dX6_row_75 : decode cX6_row 75 = .ok (.iadd, 1) := by decide +kernel
theorem dX6_row_76 : decode cX6_row 76 = .ok (.iconst 0, 1) := by decide +kernel
theorem dX6_row_77 : decode cX6_row 77 = .ok (.iastore, 1) := by decide +kernel
theorem dX6_row_78 : decode cX6_row 78 = .ok (.iinc 4 1, 3) := by decide +kernel
theorem dX6_row_81 : decode cX6_row 81 = .ok (.goto (-23), 3) := by decide +kernel
theorem dX6_row_84 : decode cX6_row 84 = .ok (.iconst 0, 1) := by decide +kernel
theorem dX6_row_85 : decode cX6_row 85 = .ok (.ireturn, 1) := by decide +kernel
set_option maxRecDepth 20000 in
theorem ggX6_put_X6_wrongRow : GoodIn wsX6_put wsX6_wrongRow := goodIn_r _ [8, 9, 3, 10, 11, 7, 12, 13, 14, 15, 16, 17, 18, 19, 20, 21, 22, 23, 24, 25, 26, 27, 28, 29, 30, 31, 32, 33, 34, 35, 36, 37] (by decide +kernel) (by decide +kernel)
set_option maxRecDepth 20000 in
theorem gX6_put_X6_wrongRow : GoodIn wsX6_put (wsV RX6 107 RX6 yX6_wrongRow wsX6_wrongRow) := goodIn_app (goodIn_of _ (by decide +kernel)) ggX6_put_X6_wrongRow
set_option maxRecDepth 20000 in
theorem ggX6_put_X6_isIn : GoodIn wsX6_put wsX6_isIn := goodIn_r _ [16] (by decide +kernel) (by decide +kernel)
set_option maxRecDepth 20000 in
theorem gX6_put_X6_isIn : GoodIn wsX6_put (va_wsS RX6 56 yX6_isIn wsX6_isIn) := goodIn_app (goodIn_of _ (by decide +kernel)) ggX6_put_X6_isIn
theorem dX6_put_0 : decode cX6_put 0 = .ok (.aload_n 0, 1) := by decide +kernel
theorem dX6_put_1 : decode cX6_put 1 = .ok (.iload_n 1, 1) := by decide +kernel
theorem dX6_put_2 : decode cX6_put 2 = .ok (.iconst (-1), 1) := by decide +kernel
theorem dX6_put_3 : decode cX6_put 3 = .ok (.invokevirtual 107, 3) := by decide +kernel
theorem dX6_put_6 : decode cX6_put 6 = .ok (.istore 4, 2) := by decide +kernel
theorem dX6_put_8 : decode cX6_put 8 = .ok (.iload 4, 2) := by decide +kernel
theorem dX6_put_10 : decode cX6_put 10 = .ok (.ifCond .eq 6, 3) := by decide +kernel
theorem dX6_put_13 : decode cX6_put 13 = .ok (.iload 4, 2) := by decide +kernel
theorem dX6_put_15 : decode cX6_put 15 = .ok (.ireturn, 1) := by decide +kernel
theorem dX6_put_16 : decode cX6_put 16 = .ok (.iload_n 2, 1) := by decide +kernel
theorem dX6_put_17 : decode cX6_put 17 = .ok (.i2l, 1) := by decide +kernel
theorem dX6_put_18 : decode cX6_put 18 = .ok (.lconst 0, 1) := by decide +kernel
theorem dX6_put_19 : decode cX6_put 19 = .ok (.aload_n 0, 1) := by decide +kernel
theorem dX6_put_20 : decode cX6_put 20 = .ok (.getfield 28, 3) := by decide +kernel
theorem dX6_put_23 : decode cX6_put 23 = .ok (.iload_n 1, 1) := by decide +kernel
theorem dX6_put_24 : decode cX6_put 24 = .ok (.iaload, 1) := by decide +kernel
theorem dX6_put_25 : decode cX6_put 25 = .ok (.iconst 1, 1) := by decide +kernel
theorem dX6_put_26 : decode cX6_put 26 = .ok (.isub, 1) := by decide +kernel
theorem dX6_put_27 : decode cX6_put 27 = .ok (.i2l, 1) := by decide +kernel
theorem dX6_put_28 : decode cX6_put 28 = .ok (.invokestatic 56, 3) := by decide +kernel
theorem dX6_put_31 : decode cX6_put 31 = .ok (.ifCond .ne 6, 3) := by decide +kernel
theorem dX6_put_34 : decode cX6_put 34 = .ok (.bipush (-13), 2) := by decide +kernel
theorem dX6_put_36 : decode cX6_put 36 = .ok (.ireturn, 1) := by decide +kernel
theorem dX6_put_37 : decode cX6_put 37 = .ok (.aload_n 0, 1) := by decide +kernel
theorem dX6_put_38 : decode cX6_put 38 = .ok (.getfield 31, 3) := by decide +kernel
theorem dX6_put_41 : decode cX6_put 41 = .ok (.bipush 100, 2) := by decide +kernel
theorem dX6_put_43 : decode cX6_put 43 = .ok (.iload_n 1, 1) := by decide +kernel
theorem dX6_put_44 : decode cX6_put 44 = .ok (.imul, 1) := by decide +kernel
theorem dX6_put_45 : decode cX6_put 45 = .ok (.iload_n 2, 1) := by decide +kernel
theorem dX6_put_46 : decode cX6_put 46 = .ok (.iadd, 1) := by decide +kernel
theorem dX6_put_47 : decode cX6_put 47 = .ok (.aload_n 0, 1) := by decide +kernel
theorem dX6_put_48 : decode cX6_put 48 = .ok (.getfield 25, 3) := by decide +kernel
theorem dX6_put_51 : decode cX6_put 51 = .ok (.iload_n 1, 1) := by decide +kernel
theorem dX6_put_52 : decode cX6_put 52 = .ok (.iaload, 1) := by decide +kernel
theorem dX6_put_53 : decode cX6_put 53 = .ok (.ifCond .ne 8, 3) := by decide +kernel
theorem dX6_put_56 : decode cX6_put 56 = .ok (.iload_n 3, 1) := by decide +kernel
theorem dX6_put_57 : decode cX6_put 57 = .ok (.i2b, 1) := by decide +kernel
theorem dX6_put_58 : decode cX6_put 58 = .ok (.goto 19, 3) := by decide +kernel
theorem dX6_put_61 : decode cX6_put 61 = .ok (.aload_n 0, 1) := by decide +kernel
theorem dX6_put_62 : decode cX6_put 62 = .ok (.getfield 25, 3) := by decide +kernel
theorem dX6_put_65 : decode cX6_put 65 = .ok (.iload_n 1, 1) := by decide +kernel
theorem dX6_put_66 : decode cX6_put 66 = .ok (.iaload, 1) := by decide +kernel
theorem dX6_put_67 : decode cX6_put 67 = .ok (.iconst 1, 1) := by decide +kernel
theorem dX6_put_68 : decode cX6_put 68 = .ok (.if_icmp .ne 8, 3) := by decide +kernel
theorem dX6_put_71 : decode cX6_put 71 = .ok (.iload_n 3, 1) := by decide +kernel
theorem dX6_put_72 : decode cX6_put 72 = .ok (.i2s, 1) := by decide +kernel
theorem dX6_put_73 : decode cX6_put 73 = .ok (.goto 4, 3) := by decide +kernel
theorem dX6_put_76 : decode cX6_put 76 = .ok (.iload_n 3, 1) := by decide +kernel
theorem dX6_put_77 : decode cX6_put 77 = .ok (.iastore, 1) := by decide +kernel
theorem dX6_put_78 : decode cX6_put 78 = .ok (.iconst 0, 1) := by decide +kernel
theorem dX6_put_79 : decode cX6_put 79 = .ok (.ireturn, 1) := by decide +kernel
set_option maxRecDepth 20000 in
theorem ggX6_element_X6_isShelf : GoodIn wsX6_element wsX6_isShelf := goodIn_r _ [8, 9, 10, 11, 7, 12] (by decide +kernel) (by decide +kernel)
set_option maxRecDepth 20000 in
theorem gX6_element_X6_isShelf : GoodIn wsX6_element (va_wsS RX6 104 yX6_isShelf wsX6_isShelf) := goodIn_app (goodIn_of _ (by decide +kernel)) ggX6_element_X6_isShelf
set_option maxRecDepth 20000 in
theorem ggX6_element_X6_isIn : GoodIn wsX6_element wsX6_isIn := goodIn_r _ [12] (by decide +kernel) (by decide +kernel)
set_option maxRecDepth 20000 in
theorem gX6_element_X6_isIn : GoodIn wsX6_element (va_wsS RX6 56 yX6_isIn wsX6_isIn) := goodIn_app (goodIn_of _ (by decide +kernel)) ggX6_element_X6_isIn
theorem dX6_element_0 : decode cX6_element 0 = .ok (.aload_n 0, 1) := by decide +kernel
theorem dX6_element_1 : decode cX6_element 1 = .ok (.iload_n 1, 1) := by decide +kernel
theorem dX6_element_2 : decode cX6_element 2 = .ok (.invokestatic 104, 3) := by decide +kernel
theorem dX6_element_5 : decode cX6_element 5 = .ok (.ifCond .ne 7, 3) := by decide +kernel
theorem dX6_element_8 : decode cX6_element 8 = .ok (.iconst 1, 1) := by decide +kernel
theorem dX6_element_9 : decode cX6_element 9 = .ok (.goto 36, 3) := by decide +kernel
theorem dX6_element_12 : decode cX6_element 12 = .ok (.aload_n 0, 1) := by decide +kernel
theorem dX6_element_13 : decode cX6_element 13 = .ok (.getfield 22, 3) := by decide +kernel
theorem dX6_element_16 : decode cX6_element 16 = .ok (.iload_n 1, 1) := by decide +kernel
theorem dX6_element_17 : decode cX6_element 17 = .ok (.iaload, 1) := by decide +kernel
theorem dX6_element_18 : decode cX6_element 18 = .ok (.iconst 2, 1) := by decide +kernel
theorem dX6_element_19 : decode cX6_element 19 = .ok (.if_icmp .ne 21, 3) := by decide +kernel
theorem dX6_element_22 : decode cX6_element 22 = .ok (.iload_n 2, 1) := by decide +kernel
theorem dX6_element_23 : decode cX6_element 23 = .ok (.i2l, 1) := by decide +kernel
theorem dX6_element_24 : decode cX6_element 24 = .ok (.lconst 0, 1) := by decide +kernel
theorem dX6_element_25 : decode cX6_element 25 = .ok (.aload_n 0, 1) := by decide +kernel
theorem dX6_element_26 : decode cX6_element 26 = .ok (.getfield 28, 3) := by decide +kernel
theorem dX6_element_29 : decode cX6_element 29 = .ok (.iload_n 1, 1) := by decide +kernel
theorem dX6_element_30 : decode cX6_element 30 = .ok (.iaload, 1) := by decide +kernel
theorem dX6_element_31 : decode cX6_element 31 = .ok (.iconst 1, 1) := by decide +kernel
theorem dX6_element_32 : decode cX6_element 32 = .ok (.isub, 1) := by decide +kernel
theorem dX6_element_33 : decode cX6_element 33 = .ok (.i2l, 1) := by decide +kernel
theorem dX6_element_34 : decode cX6_element 34 = .ok (.invokestatic 56, 3) := by decide +kernel
theorem dX6_element_37 : decode cX6_element 37 = .ok (.ifCond .ne 7, 3) := by decide +kernel
theorem dX6_element_40 : decode cX6_element 40 = .ok (.iconst 2, 1) := by decide +kernel
theorem dX6_element_41 : decode cX6_element 41 = .ok (.goto 4, 3) := by decide +kernel
theorem dX6_element_44 : decode cX6_element 44 = .ok (.iconst 0, 1) := by decide +kernel
theorem dX6_element_45 : decode cX6_element 45 = .ok (.putfield 52, 3) := by decide +kernel
theorem dX6_element_48 : decode cX6_element 48 = .ok (.aload_n 0, 1) := by decide +kernel
theorem dX6_element_49 : decode cX6_element 49 = .ok (.getfield 52, 3) := by decide +kernel
theorem dX6_element_52 : decode cX6_element 52 = .ok (.ifCond .ne 18, 3) := by decide +kernel
theorem dX6_element_55 : decode cX6_element 55 = .ok (.aload_n 0, 1) := by decide +kernel
theorem dX6_element_56 : decode cX6_element 56 = .ok (.getfield 31, 3) := by decide +kernel
theorem dX6_element_59 : decode cX6_element 59 = .ok (.bipush 100, 2) := by decide +kernel
theorem dX6_element_61 : decode cX6_element 61 = .ok (.iload_n 1, 1) := by decide +kernel
theorem dX6_element_62 : decode cX6_element 62 = .ok (.imul, 1) := by decide +kernel
theorem dX6_element_63 : decode cX6_element 63 = .ok (.iload_n 2, 1) := by decide +kernel
theorem dX6_element_64 : decode cX6_element 64 = .ok (.iadd, 1) := by decide +kernel
theorem dX6_element_65 : decode cX6_element 65 = .ok (.iaload, 1) := by decide +kernel
theorem dX6_element_66 : decode cX6_element 66 = .ok (.i2l, 1) := by decide +kernel
theorem dX6_element_67 : decode cX6_element 67 = .ok (.goto 4, 3) := by decide +kernel
theorem dX6_element_70 : decode cX6_element 70 = .ok (.lconst 0, 1) := by decide +kernel
theorem dX6_element_71 : decode cX6_element 71 = .ok (.lreturn, 1) := by decide +kernel
set_option maxRecDepth 20000 in
theorem ggX6_copy_X6_isShelf : GoodIn wsX6_copy wsX6_isShelf := goodIn_r _ [8, 9, 10, 11, 7, 12] (by decide +kernel) (by decide +kernel)
set_option maxRecDepth 20000 in
theorem gX6_copy_X6_isShelf : GoodIn wsX6_copy (va_wsS RX6 104 yX6_isShelf wsX6_isShelf) := goodIn_app (goodIn_of _ (by decide +kernel)) ggX6_copy_X6_isShelf
theorem dX6_copy_0 : decode cX6_copy 0 = .ok (.iload_n 1, 1) := by decide +kernel
theorem dX6_copy_1 : decode cX6_copy 1 = .ok (.invokestatic 104, 3) := by decide +kernel
theorem dX6_copy_4 : decode cX6_copy 4 = .ok (.ifCond .eq 10, 3) := by decide +kernel
theorem dX6_copy_7 : decode cX6_copy 7 = .ok (.iload_n 3, 1) := by decide +kernel
theorem dX6_copy_8 : decode cX6_copy 8 = .ok (.invokestatic 104, 3) := by decide +kernel
theorem dX6_copy_11 : decode cX6_copy 11 = .ok (.ifCond .ne 5, 3) := by decide +kernel
theorem dX6_copy_14 : decode cX6_copy 14 = .ok (.iconst (-1), 1) := by decide +kernel
theorem dX6_copy_15 : decode cX6_copy 15 = .ok (.ireturn, 1) := by decide +kernel
theorem dX6_copy_16 : decode cX6_copy 16 = .ok (.aload_n 0, 1) := by decide +kernel
theorem dX6_copy_17 : decode cX6_copy 17 = .ok (.getfield 22, 3) := by decide +kernel
theorem dX6_copy_20 : decode cX6_copy 20 = .ok (.iload_n 1, 1) := by decide +kernel
theorem dX6_copy_21 : decode cX6_copy 21 = .ok (.iaload, 1) := by decide +kernel
theorem dX6_copy_22 : decode cX6_copy 22 = .ok (.ifCond .eq 12, 3) := by decide +kernel
theorem dX6_copy_25 : decode cX6_copy 25 = .ok (.aload_n 0, 1) := by decide +kernel
theorem dX6_copy_26 : decode cX6_copy 26 = .ok (.getfield 22, 3) := by decide +kernel
theorem dX6_copy_29 : decode cX6_copy 29 = .ok (.iload_n 3, 1) := by decide +kernel
theorem dX6_copy_30 : decode cX6_copy 30 = .ok (.iaload, 1) := by decide +kernel
theorem dX6_copy_31 : decode cX6_copy 31 = .ok (.ifCond .ne 6, 3) := by decide +kernel
theorem dX6_copy_34 : decode cX6_copy 34 = .ok (.bipush (-11), 2) := by decide +kernel
theorem dX6_copy_36 : decode cX6_copy 36 = .ok (.ireturn, 1) := by decide +kernel
theorem dX6_copy_37 : decode cX6_copy 37 = .ok (.aload_n 0, 1) := by decide +kernel
theorem dX6_copy_38 : decode cX6_copy 38 = .ok (.getfield 22, 3) := by decide +kernel
theorem dX6_copy_41 : decode cX6_copy 41 = .ok (.iload_n 1, 1) := by decide +kernel
theorem dX6_copy_42 : decode cX6_copy 42 = .ok (.iaload, 1) := by decide +kernel
theorem dX6_copy_43 : decode cX6_copy 43 = .ok (.iconst 2, 1) := by decide +kernel
theorem dX6_copy_44 : decode cX6_copy 44 = .ok (.if_icmp .ne 28, 3) := by decide +kernel
theorem dX6_copy_47 : decode cX6_copy 47 = .ok (.aload_n 0, 1) := by decide +kernel
theorem dX6_copy_48 : decode cX6_copy 48 = .ok (.getfield 22, 3) := by decide +kernel
theorem dX6_copy_51 : decode cX6_copy 51 = .ok (.iload_n 3, 1) := by decide +kernel
theorem dX6_copy_52 : decode cX6_copy 52 = .ok (.iaload, 1) := by decide +kernel
theorem dX6_copy_53 : decode cX6_copy 53 = .ok (.iconst 2, 1) := by decide +kernel
theorem dX6_copy_54 : decode cX6_copy 54 = .ok (.if_icmp .ne 18, 3) := by decide +kernel
theorem dX6_copy_57 : decode cX6_copy 57 = .ok (.aload_n 0, 1) := by decide +kernel
theorem dX6_copy_58 : decode cX6_copy 58 = .ok (.getfield 25, 3) := by decide +kernel
theorem dX6_copy_61 : decode cX6_copy 61 = .ok (.iload_n 1, 1) := by decide +kernel
theorem dX6_copy_62 : decode cX6_copy 62 = .ok (.iaload, 1) := by decide +kernel
theorem dX6_copy_63 : decode cX6_copy 63 = .ok (.aload_n 0, 1) := by decide +kernel
theorem dX6_copy_64 : decode cX6_copy 64 = .ok (.getfield 25, 3) := by decide +kernel
theorem dX6_copy_67 : decode cX6_copy 67 = .ok (.iload_n 3, 1) := by decide +kernel
theorem dX6_copy_68 : decode cX6_copy 68 = .ok (.iaload, 1) := by decide +kernel
theorem dX6_copy_69 : decode cX6_copy 69 = .ok (.if_icmp .eq 6, 3) := by decide +kernel
theorem dX6_copy_72 : decode cX6_copy 72 = .ok (.bipush (-12), 2) := by decide +kernel
theorem dX6_copy_74 : decode cX6_copy 74 = .ok (.ireturn, 1) := by decide +kernel
theorem dX6_copy_75 : decode cX6_copy 75 = .ok (.iload 5, 2) := by decide +kernel
theorem dX6_copy_77 : decode cX6_copy 77 = .ok (.ifCond .lt 39, 3) := by decide +kernel
theorem dX6_copy_80 : decode cX6_copy 80 = .ok (.iload_n 2, 1) := by decide +kernel
theorem dX6_copy_81 : decode cX6_copy 81 = .ok (.ifCond .lt 35, 3) := by decide +kernel
theorem dX6_copy_84 : decode cX6_copy 84 = .ok (.iload 4, 2) := by decide +kernel
theorem dX6_copy_86 : decode cX6_copy 86 = .ok (.ifCond .lt 30, 3) := by decide +kernel
theorem dX6_copy_89 : decode cX6_copy 89 = .ok (.iload 5, 2) := by decide +kernel
theorem dX6_copy_91 : decode cX6_copy 91 = .ok (.aload_n 0, 1) := by decide +kernel
theorem dX6_copy_92 : decode cX6_copy 92 = .ok (.getfield 28, 3) := by decide +kernel
theorem dX6_copy_95 : decode cX6_copy 95 = .ok (.iload_n 1, 1) := by decide +kernel
theorem dX6_copy_96 : decode cX6_copy 96 = .ok (.iaload, 1) := by decide +kernel
theorem dX6_copy_97 : decode cX6_copy 97 = .ok (.iload_n 2, 1) := by decide +kernel
theorem dX6_copy_98 : decode cX6_copy 98 = .ok (.isub, 1) := by decide +kernel
theorem dX6_copy_99 : decode cX6_copy 99 = .ok (.if_icmp .gt 17, 3) := by decide +kernel
theorem dX6_copy_102 : decode cX6_copy 102 = .ok (.iload 5, 2) := by decide +kernel
theorem dX6_copy_104 : decode cX6_copy 104 = .ok (.aload_n 0, 1) := by decide +kernel
theorem dX6_copy_105 : decode cX6_copy 105 = .ok (.getfield 28, 3) := by decide +kernel
theorem dX6_copy_108 : decode cX6_copy 108 = .ok (.iload_n 3, 1) := by decide +kernel
theorem dX6_copy_109 : decode cX6_copy 109 = .ok (.iaload, 1) := by decide +kernel
theorem dX6_copy_110 : decode cX6_copy 110 = .ok (.iload 4, 2) := by decide +kernel
theorem dX6_copy_112 : decode cX6_copy 112 = .ok (.isub, 1) := by decide +kernel
theorem dX6_copy_113 : decode cX6_copy 113 = .ok (.if_icmp .le 6, 3) := by decide +kernel
theorem dX6_copy_116 : decode cX6_copy 116 = .ok (.bipush (-13), 2) := by decide +kernel
theorem dX6_copy_118 : decode cX6_copy 118 = .ok (.ireturn, 1) := by decide +kernel
theorem dX6_copy_119 : decode cX6_copy 119 = .ok (.iconst 0, 1) := by decide +kernel
theorem dX6_copy_120 : decode cX6_copy 120 = .ok (.istore 6, 2) := by decide +kernel
theorem dX6_copy_122 : decode cX6_copy 122 = .ok (.iload 6, 2) := by decide +kernel
theorem dX6_copy_124 : decode cX6_copy 124 = .ok (.iload 5, 2) := by decide +kernel
theorem dX6_copy_126 : decode cX6_copy 126 = .ok (.if_icmp .ge 58, 3) := by decide +kernel
theorem dX6_copy_129 : decode cX6_copy 129 = .ok (.iload_n 2, 1) := by decide +kernel
theorem dX6_copy_130 : decode cX6_copy 130 = .ok (.iload 4, 2) := by decide +kernel
theorem dX6_copy_132 : decode cX6_copy 132 = .ok (.if_icmp .le 8, 3) := by decide +kernel
theorem dX6_copy_135 : decode cX6_copy 135 = .ok (.iload 6, 2) := by decide +kernel
theorem dX6_copy_137 : decode cX6_copy 137 = .ok (.goto 10, 3) := by decide +kernel
theorem dX6_copy_140 : decode cX6_copy 140 = .ok (.iload 5, 2) := by decide +kernel
theorem dX6_copy_142 : decode cX6_copy 142 = .ok (.iconst 1, 1) := by decide +kernel
theorem dX6_copy_143 : decode cX6_copy 143 = .ok (.isub, 1) := by decide +kernel
theorem dX6_copy_144 : decode cX6_copy 144 = .ok (.iload 6, 2) := by decide +kernel
theorem dX6_copy_146 : decode cX6_copy 146 = .ok (.isub, 1) := by decide +kernel
theorem dX6_copy_147 : decode cX6_copy 147 = .ok (.istore 7, 2) := by decide +kernel
theorem dX6_copy_149 : decode cX6_copy 149 = .ok (.aload_n 0, 1) := by decide +kernel
theorem dX6_copy_150 : decode cX6_copy 150 = .ok (.getfield 31, 3) := by decide +kernel
theorem dX6_copy_153 : decode cX6_copy 153 = .ok (.bipush 100, 2) := by decide +kernel
theorem dX6_copy_155 : decode cX6_copy 155 = .ok (.iload_n 3, 1) := by decide +kernel
theorem dX6_copy_156 : decode cX6_copy 156 = .ok (.imul, 1) := by decide +kernel
theorem dX6_copy_157 : decode cX6_copy 157 = .ok (.iload 4, 2) := by decide +kernel
theorem dX6_copy_159 : decode cX6_copy 159 = .ok (.iadd, 1) := by decide +kernel
theorem dX6_copy_160 : decode cX6_copy 160 = .ok (.iload 7, 2) := by decide +kernel
theorem dX6_copy_162 : decode cX6_copy 162 = .ok (.iadd, 1) := by decide +kernel
theorem dX6_copy_163 : decode cX6_copy 163 = .ok (.aload_n 0, 1) := by decide +kernel
theorem dX6_copy_164 : decode cX6_copy 164 = .ok (.getfield 31, 3) := by decide +kernel
theorem dX6_copy_167 : decode cX6_copy 167 = .ok (.bipush 100, 2) := by decide +kernel
theorem dX6_copy_169 : decode cX6_copy 169 = .ok (.iload_n 1, 1) := by decide +kernel
theorem dX6_copy_170 : decode cX6_copy 170 = .ok (.imul, 1) := by decide +kernel
theorem dX6_copy_171 : decode cX6_copy 171 = .ok (.iload_n 2, 1) := by decide +kernel
theorem dX6_copy_172 : decode cX6_copy 172 = .ok (.iadd, 1) := by decide +kernel
theorem dX6_copy_173 : decode cX6_copy 173 = .ok (.iload 7, 2) := by decide +kernel
theorem dX6_copy_175 : decode cX6_copy 175 = .ok (.iadd, 1) := by decide +kernel
theorem dX6_copy_176 : decode cX6_copy 176 = .ok (.iaload, 1) := by decide +kernel
theorem dX6_copy_177 : decode cX6_copy 177 = .ok (.iastore, 1) := by decide +kernel
theorem dX6_copy_178 : decode cX6_copy 178 = .ok (.iinc 6 1, 3) := by decide +kernel
theorem dX6_copy_181 : decode cX6_copy 181 = .ok (.goto (-59), 3) := by decide +kernel
theorem dX6_copy_184 : decode cX6_copy 184 = .ok (.iload 5, 2) := by decide +kernel
theorem dX6_copy_186 : decode cX6_copy 186 = .ok (.ireturn, 1) := by decide +kernel
set_option maxRecDepth 20000 in
theorem ggX6_wrongKept_X6_isShelf : GoodIn wsX6_wrongKept wsX6_isShelf := goodIn_r _ [5, 6, 7, 8, 4, 9] (by decide +kernel) (by decide +kernel)
set_option maxRecDepth 20000 in
theorem gX6_wrongKept_X6_isShelf : GoodIn wsX6_wrongKept (va_wsS RX6 104 yX6_isShelf wsX6_isShelf) := goodIn_app (goodIn_of _ (by decide +kernel)) ggX6_wrongKept_X6_isShelf
theorem dX6_wrongKept_0 : decode cX6_wrongKept 0 = .ok (.iload_n 1, 1) := by decide +kernel
theorem dX6_wrongKept_1 : decode cX6_wrongKept 1 = .ok (.invokestatic 104, 3) := by decide +kernel
theorem dX6_wrongKept_4 : decode cX6_wrongKept 4 = .ok (.ifCond .ne 7, 3) := by decide +kernel
theorem dX6_wrongKept_7 : decode cX6_wrongKept 7 = .ok (.iconst (-1), 1) := by decide +kernel
theorem dX6_wrongKept_8 : decode cX6_wrongKept 8 = .ok (.goto 33, 3) := by decide +kernel
theorem dX6_wrongKept_11 : decode cX6_wrongKept 11 = .ok (.aload_n 0, 1) := by decide +kernel
theorem dX6_wrongKept_12 : decode cX6_wrongKept 12 = .ok (.getfield 22, 3) := by decide +kernel
theorem dX6_wrongKept_15 : decode cX6_wrongKept 15 = .ok (.iload_n 1, 1) := by decide +kernel
theorem dX6_wrongKept_16 : decode cX6_wrongKept 16 = .ok (.iaload, 1) := by decide +kernel
theorem dX6_wrongKept_17 : decode cX6_wrongKept 17 = .ok (.ifCond .ne 8, 3) := by decide +kernel
theorem dX6_wrongKept_20 : decode cX6_wrongKept 20 = .ok (.bipush (-11), 2) := by decide +kernel
theorem dX6_wrongKept_22 : decode cX6_wrongKept 22 = .ok (.goto 19, 3) := by decide +kernel
theorem dX6_wrongKept_25 : decode cX6_wrongKept 25 = .ok (.aload_n 0, 1) := by decide +kernel
theorem dX6_wrongKept_26 : decode cX6_wrongKept 26 = .ok (.getfield 22, 3) := by decide +kernel
theorem dX6_wrongKept_29 : decode cX6_wrongKept 29 = .ok (.iload_n 1, 1) := by decide +kernel
theorem dX6_wrongKept_30 : decode cX6_wrongKept 30 = .ok (.iaload, 1) := by decide +kernel
theorem dX6_wrongKept_31 : decode cX6_wrongKept 31 = .ok (.iconst 1, 1) := by decide +kernel
theorem dX6_wrongKept_32 : decode cX6_wrongKept 32 = .ok (.if_icmp .ne 7, 3) := by decide +kernel
theorem dX6_wrongKept_35 : decode cX6_wrongKept 35 = .ok (.iconst 0, 1) := by decide +kernel
theorem dX6_wrongKept_36 : decode cX6_wrongKept 36 = .ok (.goto 5, 3) := by decide +kernel
theorem dX6_wrongKept_39 : decode cX6_wrongKept 39 = .ok (.bipush (-12), 2) := by decide +kernel
theorem dX6_wrongKept_41 : decode cX6_wrongKept 41 = .ok (.ireturn, 1) := by decide +kernel
set_option maxRecDepth 20000 in
theorem ggX6_depth_X6_wrongKept : GoodIn wsX6_depth wsX6_wrongKept := goodIn_r _ [7, 8, 9, 10, 6, 11, 12, 13, 14, 15, 16, 17, 18, 19, 20, 21, 22, 23, 24, 25, 26, 27, 28, 29, 30, 31, 32, 33, 34, 35, 36] (by decide +kernel) (by decide +kernel)
set_option maxRecDepth 20000 in
theorem gX6_depth_X6_wrongKept : GoodIn wsX6_depth (wsV RX6 239 RX6 yX6_wrongKept wsX6_wrongKept) := goodIn_app (goodIn_of _ (by decide +kernel)) ggX6_depth_X6_wrongKept
theorem dX6_depth_0 : decode cX6_depth 0 = .ok (.aload_n 0, 1) := by decide +kernel
theorem dX6_depth_1 : decode cX6_depth 1 = .ok (.iload_n 1, 1) := by decide +kernel
theorem dX6_depth_2 : decode cX6_depth 2 = .ok (.invokevirtual 239, 3) := by decide +kernel
theorem dX6_depth_5 : decode cX6_depth 5 = .ok (.istore_n 2, 1) := by decide +kernel
theorem dX6_depth_6 : decode cX6_depth 6 = .ok (.iload_n 2, 1) := by decide +kernel
theorem dX6_depth_7 : decode cX6_depth 7 = .ok (.ifCond .eq 10, 3) := by decide +kernel
theorem dX6_depth_10 : decode cX6_depth 10 = .ok (.ldc 242, 2) := by decide +kernel
theorem dX6_depth_12 : decode cX6_depth 12 = .ok (.iload_n 2, 1) := by decide +kernel
theorem dX6_depth_13 : decode cX6_depth 13 = .ok (.iadd, 1) := by decide +kernel
theorem dX6_depth_14 : decode cX6_depth 14 = .ok (.goto 9, 3) := by decide +kernel
theorem dX6_depth_17 : decode cX6_depth 17 = .ok (.aload_n 0, 1) := by decide +kernel
theorem dX6_depth_18 : decode cX6_depth 18 = .ok (.getfield 34, 3) := by decide +kernel
theorem dX6_depth_21 : decode cX6_depth 21 = .ok (.iload_n 1, 1) := by decide +kernel
theorem dX6_depth_22 : decode cX6_depth 22 = .ok (.iaload, 1) := by decide +kernel
theorem dX6_depth_23 : decode cX6_depth 23 = .ok (.ireturn, 1) := by decide +kernel
set_option maxRecDepth 20000 in
theorem ggX6_toss_X6_wrongKept : GoodIn wsX6_toss wsX6_wrongKept := goodIn_r _ [6, 7, 8, 9, 5, 10, 11, 12, 13, 14, 15, 16, 17, 18, 19, 20, 21, 22, 23, 24, 25, 26, 27, 28, 29, 30, 31, 32, 33, 34, 35] (by decide +kernel) (by decide +kernel)
set_option maxRecDepth 20000 in
theorem gX6_toss_X6_wrongKept : GoodIn wsX6_toss (wsV RX6 239 RX6 yX6_wrongKept wsX6_wrongKept) := goodIn_app (goodIn_of _ (by decide +kernel)) ggX6_toss_X6_wrongKept
theorem dX6_toss_0 : decode cX6_toss 0 = .ok (.aload_n 0, 1) := by decide +kernel
theorem dX6_toss_1 : decode cX6_toss 1 = .ok (.iload_n 1, 1) := by decide +kernel
theorem dX6_toss_2 : decode cX6_toss 2 = .ok (.invokevirtual 239, 3) := by decide +kernel
theorem dX6_toss_5 : decode cX6_toss 5 = .ok (.istore_n 2, 1) := by decide +kernel
theorem dX6_toss_6 : decode cX6_toss 6 = .ok (.iload_n 2, 1) := by decide +kernel
theorem dX6_toss_7 : decode cX6_toss 7 = .ok (.ifCond .eq 7, 3) := by decide +kernel
theorem dX6_toss_10 : decode cX6_toss 10 = .ok (.iload_n 2, 1) := by decide +kernel
theorem dX6_toss_11 : decode cX6_toss 11 = .ok (.goto 9, 3) := by decide +kernel
theorem dX6_toss_14 : decode cX6_toss 14 = .ok (.aload_n 0, 1) := by decide +kernel
theorem dX6_toss_15 : decode cX6_toss 15 = .ok (.getfield 37, 3) := by decide +kernel
theorem dX6_toss_18 : decode cX6_toss 18 = .ok (.iload_n 1, 1) := by decide +kernel
theorem dX6_toss_19 : decode cX6_toss 19 = .ok (.iaload, 1) := by decide +kernel
theorem dX6_toss_20 : decode cX6_toss 20 = .ok (.ireturn, 1) := by decide +kernel
theorem dJ9_abs_0f7a4_0 : decode cJ9_abs_0f7a4 0 = .ok (.iload_n 0, 1) := by decide +kernel
theorem dJ9_abs_0f7a4_1 : decode cJ9_abs_0f7a4 1 = .ok (.ifCond .ge 8, 3) := by decide +kernel
theorem dJ9_abs_0f7a4_4 : decode cJ9_abs_0f7a4 4 = .ok (.iload_n 0, 1) := by decide +kernel
theorem dJ9_abs_0f7a4_5 : decode cJ9_abs_0f7a4 5 = .ok (.ineg, 1) := by decide +kernel
theorem dJ9_abs_0f7a4_6 : decode cJ9_abs_0f7a4 6 = .ok (.goto 4, 3) := by decide +kernel
theorem dJ9_abs_0f7a4_9 : decode cJ9_abs_0f7a4 9 = .ok (.iload_n 0, 1) := by decide +kernel
theorem dJ9_abs_0f7a4_10 : decode cJ9_abs_0f7a4 10 = .ok (.ireturn, 1) := by decide +kernel
theorem dJ9_min_7cf53_0 : decode cJ9_min_7cf53 0 = .ok (.iload_n 0, 1) := by decide +kernel
theorem dJ9_min_7cf53_1 : decode cJ9_min_7cf53 1 = .ok (.iload_n 1, 1) := by decide +kernel
theorem dJ9_min_7cf53_2 : decode cJ9_min_7cf53 2 = .ok (.if_icmp .gt 7, 3) := by decide +kernel
theorem dJ9_min_7cf53_5 : decode cJ9_min_7cf53 5 = .ok (.iload_n 0, 1) := by decide +kernel
theorem dJ9_min_7cf53_6 : decode cJ9_min_7cf53 6 = .ok (.goto 4, 3) := by decide +kernel
theorem dJ9_min_7cf53_9 : decode cJ9_min_7cf53 9 = .ok (.iload_n 1, 1) := by decide +kernel
theorem dJ9_min_7cf53_10 : decode cJ9_min_7cf53 10 = .ok (.ireturn, 1) := by decide +kernel
theorem dJ7_fill_53178_0 : decode cJ7_fill_53178 0 = .ok (.iconst 0, 1) := by decide +kernel
theorem dJ7_fill_53178_1 : decode cJ7_fill_53178 1 = .ok (.istore_n 2, 1) := by decide +kernel
theorem dJ7_fill_53178_2 : decode cJ7_fill_53178 2 = .ok (.aload_n 0, 1) := by decide +kernel
theorem dJ7_fill_53178_3 : decode cJ7_fill_53178 3 = .ok (.arraylength, 1) := by decide +kernel
theorem dJ7_fill_53178_4 : decode cJ7_fill_53178 4 = .ok (.istore_n 3, 1) := by decide +kernel
theorem dJ7_fill_53178_5 : decode cJ7_fill_53178 5 = .ok (.iload_n 2, 1) := by decide +kernel
theorem dJ7_fill_53178_6 : decode cJ7_fill_53178 6 = .ok (.iload_n 3, 1) := by decide +kernel
theorem dJ7_fill_53178_7 : decode cJ7_fill_53178 7 = .ok (.if_icmp .ge 13, 3) := by decide +kernel
theorem dJ7_fill_53178_10 : decode cJ7_fill_53178 10 = .ok (.aload_n 0, 1) := by decide +kernel
theorem dJ7_fill_53178_11 : decode cJ7_fill_53178 11 = .ok (.iload_n 2, 1) := by decide +kernel
theorem dJ7_fill_53178_12 : decode cJ7_fill_53178 12 = .ok (.iload_n 1, 1) := by decide +kernel
theorem dJ7_fill_53178_13 : decode cJ7_fill_53178 13 = .ok (.iastore, 1) := by decide +kernel
theorem dJ7_fill_53178_14 : decode cJ7_fill_53178 14 = .ok (.iinc 2 1, 3) := by decide +kernel
theorem dJ7_fill_53178_17 : decode cJ7_fill_53178 17 = .ok (.goto (-12), 3) := by decide +kernel
theorem dJ7_fill_53178_20 : decode cJ7_fill_53178 20 = .ok (.return_, 1) := by decide +kernel
set_option maxRecDepth 20000 in
theorem ggL_element_X5_element : GoodIn wsL_element wsX5_element := goodIn_ca (goodIn_ca (goodIn_r _ [7, 8, 9, 10, 11, 12, 13, 14, 15, 16, 6, 17, 18, 19, 20, 21, 22, 23, 24, 25, 26, 27, 28, 29, 30, 31, 32, 33, 34, 35, 36, 37, 38, 39, 40, 41, 42] (by decide +kernel) (by decide +kernel)) (goodIn_sub (fun _ h => List.mem_cons_of_mem _ (List.mem_append_left _ (List.mem_append_right _ h))) (by decide +kernel))) (goodIn_sub (fun _ h => List.mem_cons_of_mem _ (List.mem_append_right _ h)) (by decide +kernel))
set_option maxRecDepth 20000 in
theorem gL_element_X5_element : GoodIn wsL_element (wsV RL 7 RX5 yX5_element wsX5_element) := goodIn_app (goodIn_of _ (by decide +kernel)) ggL_element_X5_element
theorem dL_element_0 : decode cL_element 0 = .ok (.aload_n 3, 1) := by decide +kernel
theorem dL_element_1 : decode cL_element 1 = .ok (.iconst 0, 1) := by decide +kernel
theorem dL_element_2 : decode cL_element 2 = .ok (.aload_n 0, 1) := by decide +kernel
theorem dL_element_3 : decode cL_element 3 = .ok (.iload_n 1, 1) := by decide +kernel
theorem dL_element_4 : decode cL_element 4 = .ok (.iload_n 2, 1) := by decide +kernel
theorem dL_element_5 : decode cL_element 5 = .ok (.invokevirtual 7, 3) := by decide +kernel
theorem dL_element_8 : decode cL_element 8 = .ok (.lastore, 1) := by decide +kernel
theorem dL_element_9 : decode cL_element 9 = .ok (.goto 11, 3) := by decide +kernel
theorem dL_element_12 : decode cL_element 12 = .ok (.astore 4, 2) := by decide +kernel
theorem dL_element_14 : decode cL_element 14 = .ok (.iconst 1, 1) := by decide +kernel
theorem dL_element_15 : decode cL_element 15 = .ok (.ireturn, 1) := by decide +kernel
theorem dL_element_16 : decode cL_element 16 = .ok (.astore 4, 2) := by decide +kernel
theorem dL_element_18 : decode cL_element 18 = .ok (.iconst 2, 1) := by decide +kernel
theorem dL_element_19 : decode cL_element 19 = .ok (.ireturn, 1) := by decide +kernel
theorem dL_element_20 : decode cL_element 20 = .ok (.iconst 0, 1) := by decide +kernel
theorem dL_element_21 : decode cL_element 21 = .ok (.ireturn, 1) := by decide +kernel
set_option maxRecDepth 20000 in
theorem ggL_law_X5_init : GoodIn wsL_law wsX5_init := goodIn_r _ [9, 10, 11, 12, 13, 14, 15, 16, 17, 18, 19, 20, 21, 22, 23, 24, 25, 26, 27, 28, 29, 30, 31, 32, 33, 34, 35, 36, 37, 38, 39, 40, 41, 42, 43, 44, 45, 46, 47, 48, 49, 50, 51, 52, 53, 54, 55, 56, 57, 58, 59, 60, 61, 940, 941, 942, 943, 944, 945, 946, 947, 948, 949, 912, 913, 914, 915, 916, 917, 918, 950, 951, 952, 953, 954, 955, 956, 957, 958, 959] (by decide +kernel) (by decide +kernel)
set_option maxRecDepth 20000 in
theorem gL_law_X5_init : GoodIn wsL_law (wsX5_init) := ggL_law_X5_init
set_option maxRecDepth 20000 in
theorem ggL_law_X6_init : GoodIn wsL_law wsX6_init := goodIn_r _ [64, 65, 11, 12, 23, 66, 67, 68, 69, 70, 71, 72, 73, 74, 75, 76, 77, 78, 79, 919, 920, 921, 922, 923, 924, 925, 926, 927, 928, 929, 930, 931, 932, 933, 934, 935, 936, 937, 938, 939] (by decide +kernel) (by decide +kernel)
set_option maxRecDepth 20000 in
theorem gL_law_X6_init : GoodIn wsL_law (wsX6_init) := ggL_law_X6_init
set_option maxRecDepth 20000 in
theorem ggL_law_X5_crowd : GoodIn wsL_law wsX5_crowd := goodIn_r _ [83, 84, 85, 86, 87, 88, 89, 18, 16, 90, 91, 92, 2, 93, 20, 94, 95, 96, 97, 98, 99, 100, 101, 102, 103, 104, 11, 12, 105, 106, 107, 108, 109, 110, 111, 112, 113, 114, 115, 116, 117, 118, 119, 41, 120, 121, 51, 122, 123, 124, 125, 126, 127, 128, 129, 130, 131, 132, 133, 134, 135, 136, 137, 138, 139, 140, 141, 142, 143, 144, 145, 146, 147, 148, 149, 150, 151, 152, 153, 154, 155, 156, 15, 157, 30, 31, 32, 33, 34, 158, 159, 36, 42, 160, 161, 162, 163, 38, 164, 165, 166, 167, 168, 169, 170, 171, 172, 173, 174, 175, 176, 177, 178, 179, 180, 181, 182, 183, 184, 185, 186, 187, 188, 189, 190, 191, 192, 193, 194, 195, 196, 197, 198, 199, 200, 201, 202, 203, 204, 205, 206, 207, 208, 209, 210, 211, 212, 213, 214, 215, 216, 217, 218, 219, 950, 951, 952, 957, 958, 959, 960, 961, 962, 963, 964, 965, 966, 912, 913, 914, 915, 916, 917, 918, 940, 941, 942, 943, 944, 945, 946, 947, 948, 949, 953, 954, 955, 956] (by decide +kernel) (by decide +kernel)
set_option maxRecDepth 20000 in
theorem gL_law_X5_crowd : GoodIn wsL_law (wsV RL 21 RX5 yX5_crowd wsX5_crowd) := goodIn_app (goodIn_of _ (by decide +kernel)) ggL_law_X5_crowd
set_option maxRecDepth 20000 in
theorem ggL_law_X6_crowd : GoodIn wsL_law wsX6_crowd := goodIn_r _ [223, 224, 72, 225, 226, 68, 66, 227, 228, 229, 5, 230, 70, 71, 231, 232, 233, 234, 235, 236, 237, 238, 239, 240, 241, 242, 243, 244, 245, 246, 73, 247, 248, 249, 250, 76, 251, 252, 253, 254, 255, 256, 257, 258, 259, 260, 261, 262, 263, 264, 265, 266, 267, 268, 269, 270, 271, 272, 273, 919, 920, 921, 922, 923, 924, 925, 926, 927, 928, 929, 930, 931, 932, 933, 934, 935, 936, 937, 938, 939] (by decide +kernel) (by decide +kernel)
set_option maxRecDepth 20000 in
theorem gL_law_X6_crowd : GoodIn wsL_law (wsV RL 25 RX6 yX6_crowd wsX6_crowd) := goodIn_app (goodIn_of _ (by decide +kernel)) ggL_law_X6_crowd
set_option maxRecDepth 20000 in
theorem ggL_law_X5_of : GoodIn wsL_law wsX5_of := goodIn_r _ [277, 16, 278, 279, 280, 281, 282, 283, 284, 285, 15, 286, 159, 36, 287, 118, 119, 41, 120, 121, 51, 912, 913, 914, 915, 916, 917, 918, 953, 954, 955, 956, 940, 941, 942, 943, 944, 945, 946, 947, 948, 949, 957, 958, 959] (by decide +kernel) (by decide +kernel)
set_option maxRecDepth 20000 in
theorem gL_law_X5_of : GoodIn wsL_law (wsV RL 26 RX5 yX5_of wsX5_of) := goodIn_app (goodIn_of _ (by decide +kernel)) ggL_law_X5_of
set_option maxRecDepth 20000 in
theorem ggL_law_X6_of : GoodIn wsL_law wsX6_of := goodIn_r _ [291, 292, 293, 294, 295, 5, 296, 66, 235, 236, 237, 297, 298, 299, 300, 919, 920, 921, 922, 923, 924, 925, 926, 927, 928, 929, 930, 931, 932, 933, 934, 935, 936, 937, 938, 939] (by decide +kernel) (by decide +kernel)
set_option maxRecDepth 20000 in
theorem gL_law_X6_of : GoodIn wsL_law (wsV RL 30 RX6 yX6_of wsX6_of) := goodIn_app (goodIn_of _ (by decide +kernel)) ggL_law_X6_of
set_option maxRecDepth 20000 in
theorem ggL_law_X5_set : GoodIn wsL_law wsX5_set := goodIn_r _ [304, 16, 281, 305, 212, 15, 213, 214, 2, 215, 306, 307, 308, 309, 30, 31, 32, 33, 34, 310, 217, 218, 219, 912, 913, 914, 915, 916, 917, 918, 940, 941, 942, 943, 944, 945, 946, 947, 948, 949] (by decide +kernel) (by decide +kernel)
set_option maxRecDepth 20000 in
theorem gL_law_X5_set : GoodIn wsL_law (wsV RL 31 RX5 yX5_set wsX5_set) := goodIn_app (goodIn_of _ (by decide +kernel)) ggL_law_X5_set
set_option maxRecDepth 20000 in
theorem ggL_law_X6_set : GoodIn wsL_law wsX6_set := goodIn_r _ [314, 66, 315, 316, 5, 317, 273, 269, 235, 236, 237, 318, 319, 320, 321, 919, 920, 921, 922, 923, 924, 925, 926, 927, 928, 929, 930, 931, 932, 933, 934, 935, 936, 937, 938, 939] (by decide +kernel) (by decide +kernel)
set_option maxRecDepth 20000 in
theorem gL_law_X6_set : GoodIn wsL_law (wsV RL 34 RX6 yX6_set wsX6_set) := goodIn_app (goodIn_of _ (by decide +kernel)) ggL_law_X6_set
set_option maxRecDepth 20000 in
theorem ggL_law_X5_steps : GoodIn wsL_law wsX5_steps := goodIn_r _ [325, 16, 279, 283, 284, 285, 15, 286, 159, 36, 326, 204, 2, 205, 912, 913, 914, 915, 916, 917, 918, 953, 954, 955, 956, 940, 941, 942, 943, 944, 945, 946, 947, 948, 949] (by decide +kernel) (by decide +kernel)
set_option maxRecDepth 20000 in
theorem gL_law_X5_steps : GoodIn wsL_law (wsV RL 35 RX5 yX5_steps wsX5_steps) := goodIn_app (goodIn_of _ (by decide +kernel)) ggL_law_X5_steps
set_option maxRecDepth 20000 in
theorem ggL_law_X6_steps : GoodIn wsL_law wsX6_steps := goodIn_r _ [330, 331, 293, 294, 295, 5, 296, 66, 235, 236, 237, 318, 319, 320, 321, 919, 920, 921, 922, 923, 924, 925, 926, 927, 928, 929, 930, 931, 932, 933, 934, 935, 936, 937, 938, 939] (by decide +kernel) (by decide +kernel)
set_option maxRecDepth 20000 in
theorem gL_law_X6_steps : GoodIn wsL_law (wsV RL 38 RX6 yX6_steps wsX6_steps) := goodIn_app (goodIn_of _ (by decide +kernel)) ggL_law_X6_steps
set_option maxRecDepth 20000 in
theorem ggL_law_X5_holds : GoodIn wsL_law wsX5_holds := goodIn_r _ [335, 16, 283, 284, 285, 15, 286, 159, 36, 336, 337, 338, 38, 339, 166, 340, 341, 342, 343, 344, 32, 345, 30, 31, 346, 347, 348, 349, 34, 350, 351, 352, 353, 354, 355, 356, 357, 358, 359, 360, 361, 362, 363, 364, 365, 366, 367, 368, 369, 2, 370, 371, 372, 373, 374, 375, 376, 377, 378, 379, 380, 381, 382, 158, 160, 912, 913, 914, 915, 916, 917, 918, 940, 941, 942, 943, 944, 945, 946, 947, 948, 949, 953, 954, 955, 956] (by decide +kernel) (by decide +kernel)
set_option maxRecDepth 20000 in
theorem gL_law_X5_holds : GoodIn wsL_law (wsV RL 39 RX5 yX5_holds wsX5_holds) := goodIn_app (goodIn_of _ (by decide +kernel)) ggL_law_X5_holds
set_option maxRecDepth 20000 in
theorem ggL_law_X6_holds : GoodIn wsL_law wsX6_holds := goodIn_r _ [386, 66, 293, 294, 295, 5, 296, 235, 236, 237, 387, 388, 389, 390, 297, 298, 299, 300, 391, 392, 393, 394, 395, 396, 397, 398, 399, 400, 401, 402, 403, 404, 405, 406, 407, 408, 409, 410, 411, 412, 413, 414, 415, 416, 417, 418, 919, 920, 921, 922, 923, 924, 925, 926, 927, 928, 929, 930, 931, 932, 933, 934, 935, 936, 937, 938, 939] (by decide +kernel) (by decide +kernel)
set_option maxRecDepth 20000 in
theorem gL_law_X6_holds : GoodIn wsL_law (wsV RL 42 RX6 yX6_holds wsX6_holds) := goodIn_app (goodIn_of _ (by decide +kernel)) ggL_law_X6_holds
set_option maxRecDepth 20000 in
theorem ggL_law_X5_round : GoodIn wsL_law wsX5_round := goodIn_r _ [422, 16, 281, 423, 424, 425, 426, 15, 427, 42, 159, 36, 160, 158, 428, 179, 180, 41, 181, 177, 51, 182, 183, 184, 185, 121, 186, 187, 188, 189, 429, 430, 431, 432, 433, 434, 341, 342, 343, 344, 32, 345, 30, 31, 346, 347, 348, 349, 34, 350, 351, 352, 353, 354, 355, 356, 357, 358, 359, 360, 361, 362, 363, 364, 365, 366, 367, 368, 369, 2, 370, 371, 372, 373, 374, 375, 376, 377, 378, 379, 380, 381, 382, 435, 436, 437, 438, 439, 127, 128, 129, 440, 441, 442, 443, 444, 445, 446, 447, 912, 913, 914, 915, 916, 917, 918, 940, 941, 942, 943, 944, 945, 946, 947, 948, 949, 957, 958, 959, 953, 954, 955, 956] (by decide +kernel) (by decide +kernel)
set_option maxRecDepth 20000 in
theorem gL_law_X5_round : GoodIn wsL_law (wsV RL 43 RX5 yX5_round wsX5_round) := goodIn_app (goodIn_of _ (by decide +kernel)) ggL_law_X5_round
set_option maxRecDepth 20000 in
theorem ggL_law_X6_round : GoodIn wsL_law wsX6_round := goodIn_r _ [451, 66, 452, 453, 454, 5, 455, 77, 456, 457, 458, 459, 391, 392, 393, 394, 297, 298, 299, 300, 395, 396, 397, 398, 399, 400, 401, 402, 403, 404, 405, 406, 407, 408, 409, 410, 411, 412, 413, 414, 415, 416, 417, 418, 387, 388, 389, 390, 460, 461, 462, 463, 464, 465, 466, 919, 920, 921, 922, 923, 924, 925, 926, 927, 928, 929, 930, 931, 932, 933, 934, 935, 936, 937, 938, 939] (by decide +kernel) (by decide +kernel)
set_option maxRecDepth 20000 in
theorem gL_law_X6_round : GoodIn wsL_law (wsV RL 47 RX6 yX6_round wsX6_round) := goodIn_app (goodIn_of _ (by decide +kernel)) ggL_law_X6_round
set_option maxRecDepth 20000 in
theorem ggL_law_X5_anew : GoodIn wsL_law wsX5_anew := goodIn_r _ [470, 16, 423, 471, 472, 473, 15, 474, 158, 160, 42, 428, 179, 180, 41, 181, 177, 51, 182, 183, 184, 185, 121, 186, 187, 188, 189, 912, 913, 914, 915, 916, 917, 918, 940, 941, 942, 943, 944, 945, 946, 947, 948, 949, 957, 958, 959] (by decide +kernel) (by decide +kernel)
set_option maxRecDepth 20000 in
theorem gL_law_X5_anew : GoodIn wsL_law (wsV RL 48 RX5 yX5_anew wsX5_anew) := goodIn_app (goodIn_of _ (by decide +kernel)) ggL_law_X5_anew
set_option maxRecDepth 20000 in
theorem ggL_law_X6_anew : GoodIn wsL_law wsX6_anew := goodIn_r _ [478, 66, 919, 920, 921, 922, 923, 924, 925, 926, 927, 928, 929, 930, 931, 932, 933, 934, 935, 936, 937, 938, 939] (by decide +kernel) (by decide +kernel)
set_option maxRecDepth 20000 in
theorem gL_law_X6_anew : GoodIn wsL_law (wsV RL 51 RX6 yX6_anew wsX6_anew) := goodIn_app (goodIn_of _ (by decide +kernel)) ggL_law_X6_anew
set_option maxRecDepth 20000 in
theorem ggL_law_X5_last : GoodIn wsL_law wsX5_last := goodIn_r _ [482, 16, 281, 483, 282, 484, 485, 486, 15, 487, 488, 489, 490, 491, 492, 351, 493, 494, 495, 496, 30, 444, 445, 446, 41, 447, 121, 51, 497, 498, 499, 500, 31, 501, 118, 119, 120, 502, 503, 504, 505, 33, 506, 912, 913, 914, 915, 916, 917, 918, 940, 941, 942, 943, 944, 945, 946, 947, 948, 949, 957, 958, 959] (by decide +kernel) (by decide +kernel)
set_option maxRecDepth 20000 in
theorem gL_law_X5_last : GoodIn wsL_law (wsV RL 52 RX5 yX5_last wsX5_last) := goodIn_app (goodIn_of _ (by decide +kernel)) ggL_law_X5_last
set_option maxRecDepth 20000 in
theorem ggL_law_X6_last : GoodIn wsL_law wsX6_last := goodIn_r _ [510, 511, 66, 235, 236, 5, 237, 512, 513, 514, 515, 516, 78, 297, 298, 299, 300, 517, 518, 519, 520, 521, 522, 523, 524, 525, 526, 527, 528, 529, 530, 531, 532, 533, 534, 535, 536, 537, 538, 539, 919, 920, 921, 922, 923, 924, 925, 926, 927, 928, 929, 930, 931, 932, 933, 934, 935, 936, 937, 938, 939] (by decide +kernel) (by decide +kernel)
set_option maxRecDepth 20000 in
theorem gL_law_X6_last : GoodIn wsL_law (wsV RL 55 RX6 yX6_last wsX6_last) := goodIn_app (goodIn_of _ (by decide +kernel)) ggL_law_X6_last
set_option maxRecDepth 20000 in
theorem ggL_law_X5_target : GoodIn wsL_law wsX5_target := goodIn_r _ [543, 16, 281, 282, 544, 214, 2, 215, 545, 494, 495, 15, 496, 30, 444, 445, 446, 41, 447, 121, 51, 546, 498, 499, 500, 31, 488, 547, 548, 549, 550, 551, 552, 553, 369, 370, 912, 913, 914, 915, 916, 917, 918, 940, 941, 942, 943, 944, 945, 946, 947, 948, 949, 957, 958, 959] (by decide +kernel) (by decide +kernel)
set_option maxRecDepth 20000 in
theorem gL_law_X5_target : GoodIn wsL_law (wsV RL 56 RX5 yX5_target wsX5_target) := goodIn_app (goodIn_of _ (by decide +kernel)) ggL_law_X5_target
set_option maxRecDepth 20000 in
theorem ggL_law_X6_target : GoodIn wsL_law wsX6_target := goodIn_r _ [557, 66, 235, 236, 5, 237, 512, 513, 514, 515, 516, 78, 297, 298, 299, 300, 558, 559, 560, 561, 517, 518, 519, 520, 562, 563, 564, 565, 566, 567, 919, 920, 921, 922, 923, 924, 925, 926, 927, 928, 929, 930, 931, 932, 933, 934, 935, 936, 937, 938, 939] (by decide +kernel) (by decide +kernel)
set_option maxRecDepth 20000 in
theorem gL_law_X6_target : GoodIn wsL_law (wsV RL 59 RX6 yX6_target wsX6_target) := goodIn_app (goodIn_of _ (by decide +kernel)) ggL_law_X6_target
set_option maxRecDepth 20000 in
theorem ggL_law_X5_wins : GoodIn wsL_law wsX5_wins := goodIn_r _ [571, 16, 18, 282, 283, 284, 285, 15, 286, 159, 36, 154, 155, 156, 157, 30, 31, 32, 33, 34, 158, 42, 160, 161, 162, 163, 38, 164, 165, 166, 167, 168, 169, 170, 171, 172, 173, 174, 175, 41, 176, 177, 121, 51, 178, 179, 180, 181, 182, 183, 184, 185, 186, 187, 188, 189, 190, 118, 119, 120, 424, 425, 426, 427, 428, 429, 430, 431, 432, 433, 434, 341, 342, 343, 344, 345, 346, 347, 348, 349, 350, 351, 352, 353, 354, 355, 356, 357, 358, 359, 360, 361, 362, 363, 364, 365, 366, 367, 368, 369, 2, 370, 371, 372, 373, 374, 375, 376, 377, 378, 379, 380, 381, 382, 435, 436, 437, 438, 439, 127, 128, 129, 440, 441, 442, 443, 444, 445, 446, 447, 572, 573, 574, 575, 489, 490, 491, 492, 488, 493, 494, 495, 496, 497, 498, 499, 500, 501, 502, 503, 504, 505, 576, 912, 913, 914, 915, 916, 917, 918, 940, 941, 942, 943, 944, 945, 946, 947, 948, 949, 953, 954, 955, 956, 957, 958, 959] (by decide +kernel) (by decide +kernel)
set_option maxRecDepth 20000 in
theorem gL_law_X5_wins : GoodIn wsL_law (wsV RL 60 RX5 yX5_wins wsX5_wins) := goodIn_app (goodIn_of _ (by decide +kernel)) ggL_law_X5_wins
set_option maxRecDepth 20000 in
theorem ggL_law_X6_wins_ : GoodIn wsL_law wsX6_wins_ := goodIn_r _ [580, 273, 69, 66, 78, 293, 294, 295, 5, 296, 235, 236, 237, 452, 453, 454, 455, 77, 456, 457, 458, 459, 391, 392, 393, 394, 297, 298, 299, 300, 395, 396, 397, 398, 399, 400, 401, 402, 403, 404, 405, 406, 407, 408, 409, 410, 411, 412, 413, 414, 415, 416, 417, 418, 387, 388, 389, 390, 460, 461, 462, 463, 464, 465, 466, 512, 513, 514, 515, 516, 517, 518, 519, 520, 525, 526, 527, 528, 529, 530, 531, 532, 533, 534, 535, 536, 537, 538, 539, 919, 920, 921, 922, 923, 924, 925, 926, 927, 928, 929, 930, 931, 932, 933, 934, 935, 936, 937, 938, 939] (by decide +kernel) (by decide +kernel)
set_option maxRecDepth 20000 in
theorem gL_law_X6_wins_ : GoodIn wsL_law (wsV RL 63 RX6 yX6_wins_ wsX6_wins_) := goodIn_app (goodIn_of _ (by decide +kernel)) ggL_law_X6_wins_
set_option maxRecDepth 20000 in
theorem ggL_law_X5_mean : GoodIn wsL_law wsX5_mean := goodIn_r _ [584, 84, 585, 16, 90, 91, 92, 2, 93, 20, 544, 214, 215, 586, 587, 588, 589, 94, 95, 96, 97, 98, 99, 100, 590, 591, 592, 15, 593, 488, 501, 118, 119, 41, 120, 121, 51, 594, 595, 596, 597, 32, 598, 445, 446, 447, 547, 548, 549, 550, 551, 552, 553, 369, 370, 545, 494, 495, 496, 30, 444, 546, 498, 499, 500, 31, 950, 951, 952, 957, 958, 959, 912, 913, 914, 915, 916, 917, 918, 940, 941, 942, 943, 944, 945, 946, 947, 948, 949] (by decide +kernel) (by decide +kernel)
set_option maxRecDepth 20000 in
theorem gL_law_X5_mean : GoodIn wsL_law (wsV RL 64 RX5 yX5_mean wsX5_mean) := goodIn_app (goodIn_of _ (by decide +kernel)) ggL_law_X5_mean
set_option maxRecDepth 20000 in
theorem ggL_law_X6_mean : GoodIn wsL_law wsX6_mean := goodIn_r _ [602, 516, 231, 232, 5, 233, 234, 235, 236, 237, 603, 604, 605, 606, 72, 78, 73, 66, 227, 228, 229, 230, 70, 71, 517, 518, 519, 520, 562, 563, 564, 565, 566, 567, 558, 559, 560, 561, 919, 920, 921, 922, 923, 924, 925, 926, 927, 928, 929, 930, 931, 932, 933, 934, 935, 936, 937, 938, 939] (by decide +kernel) (by decide +kernel)
set_option maxRecDepth 20000 in
theorem gL_law_X6_mean : GoodIn wsL_law (wsV RL 68 RX6 yX6_mean wsX6_mean) := goodIn_app (goodIn_of _ (by decide +kernel)) ggL_law_X6_mean
set_option maxRecDepth 20000 in
theorem ggL_law_X5_winners : GoodIn wsL_law wsX5_winners := goodIn_r _ [610, 16, 84, 90, 91, 92, 2, 93, 20, 544, 214, 215, 586, 587, 588, 589, 94, 95, 96, 97, 98, 99, 100, 590, 591, 592, 15, 593, 488, 501, 118, 119, 41, 120, 121, 51, 594, 595, 596, 597, 32, 484, 485, 486, 487, 489, 490, 491, 492, 351, 493, 494, 495, 496, 30, 444, 445, 446, 447, 497, 498, 499, 500, 31, 502, 503, 504, 505, 33, 506, 912, 913, 914, 915, 916, 917, 918, 950, 951, 952, 957, 958, 959, 940, 941, 942, 943, 944, 945, 946, 947, 948, 949] (by decide +kernel) (by decide +kernel)
set_option maxRecDepth 20000 in
theorem gL_law_X5_winners : GoodIn wsL_law (wsV RL 69 RX5 yX5_winners wsX5_winners) := goodIn_app (goodIn_of _ (by decide +kernel)) ggL_law_X5_winners
set_option maxRecDepth 20000 in
theorem ggL_law_X6_winners : GoodIn wsL_law wsX6_winners := goodIn_r _ [614, 231, 232, 5, 233, 234, 235, 236, 237, 603, 604, 605, 606, 72, 78, 73, 66, 516, 227, 228, 229, 230, 70, 71, 521, 522, 523, 524, 517, 518, 519, 520, 525, 526, 527, 528, 529, 530, 531, 532, 533, 534, 535, 536, 537, 538, 539, 919, 920, 921, 922, 923, 924, 925, 926, 927, 928, 929, 930, 931, 932, 933, 934, 935, 936, 937, 938, 939] (by decide +kernel) (by decide +kernel)
set_option maxRecDepth 20000 in
theorem gL_law_X6_winners : GoodIn wsL_law (wsV RL 72 RX6 yX6_winners wsX6_winners) := goodIn_app (goodIn_of _ (by decide +kernel)) ggL_law_X6_winners
set_option maxRecDepth 20000 in
theorem ggL_law_X5_best : GoodIn wsL_law wsX5_best := goodIn_r _ [618, 16, 84, 90, 91, 92, 2, 93, 20, 586, 587, 588, 589, 94, 95, 96, 97, 98, 99, 100, 590, 591, 592, 15, 593, 488, 501, 118, 119, 41, 120, 121, 51, 594, 595, 596, 597, 32, 619, 620, 621, 622, 31, 351, 30, 33, 444, 445, 446, 447, 502, 503, 504, 505, 912, 913, 914, 915, 916, 917, 918, 950, 951, 952, 957, 958, 959, 940, 941, 942, 943, 944, 945, 946, 947, 948, 949] (by decide +kernel) (by decide +kernel)
set_option maxRecDepth 20000 in
theorem gL_law_X5_best : GoodIn wsL_law (wsV RL 73 RX5 yX5_best wsX5_best) := goodIn_app (goodIn_of _ (by decide +kernel)) ggL_law_X5_best
set_option maxRecDepth 20000 in
theorem ggL_law_X6_best : GoodIn wsL_law wsX6_best := goodIn_r _ [626, 66, 516, 603, 604, 605, 5, 606, 72, 78, 73, 227, 228, 229, 230, 70, 71, 231, 232, 233, 234, 235, 236, 237, 517, 518, 519, 520, 529, 530, 531, 532, 533, 534, 535, 919, 920, 921, 922, 923, 924, 925, 926, 927, 928, 929, 930, 931, 932, 933, 934, 935, 936, 937, 938, 939] (by decide +kernel) (by decide +kernel)
set_option maxRecDepth 20000 in
theorem gL_law_X6_best : GoodIn wsL_law (wsV RL 76 RX6 yX6_best wsX6_best) := goodIn_app (goodIn_of _ (by decide +kernel)) ggL_law_X6_best
set_option maxRecDepth 20000 in
theorem ggL_law_X5_level : GoodIn wsL_law wsX5_level := goodIn_r _ [630, 16, 326, 204, 2, 205, 631, 354, 355, 15, 356, 357, 358, 359, 360, 32, 361, 362, 363, 364, 365, 366, 367, 368, 30, 31, 369, 370, 371, 372, 373, 374, 912, 913, 914, 915, 916, 917, 918, 940, 941, 942, 943, 944, 945, 946, 947, 948, 949] (by decide +kernel) (by decide +kernel)
set_option maxRecDepth 20000 in
theorem gL_law_X5_level : GoodIn wsL_law (wsV RL 77 RX5 yX5_level wsX5_level) := goodIn_app (goodIn_of _ (by decide +kernel)) ggL_law_X5_level
set_option maxRecDepth 20000 in
theorem ggL_law_X6_level : GoodIn wsL_law wsX6_level := goodIn_r _ [635, 331, 235, 236, 5, 237, 636, 637, 638, 639, 66, 395, 396, 397, 398, 399, 400, 401, 402, 403, 404, 405, 406, 919, 920, 921, 922, 923, 924, 925, 926, 927, 928, 929, 930, 931, 932, 933, 934, 935, 936, 937, 938, 939] (by decide +kernel) (by decide +kernel)
set_option maxRecDepth 20000 in
theorem gL_law_X6_level : GoodIn wsL_law (wsV RL 80 RX6 yX6_level wsX6_level) := goodIn_app (goodIn_of _ (by decide +kernel)) ggL_law_X6_level
set_option maxRecDepth 20000 in
theorem ggL_law_X5_stepsOf : GoodIn wsL_law wsX5_stepsOf := goodIn_r _ [643, 16, 644, 595, 596, 15, 597, 32, 645, 646, 647, 648, 649, 650, 184, 651, 357, 358, 359, 360, 365, 366, 367, 368, 30, 31, 369, 2, 370, 371, 372, 373, 374, 912, 913, 914, 915, 916, 917, 918, 940, 941, 942, 943, 944, 945, 946, 947, 948, 949] (by decide +kernel) (by decide +kernel)
set_option maxRecDepth 20000 in
theorem gL_law_X5_stepsOf : GoodIn wsL_law (wsV RL 81 RX5 yX5_stepsOf wsX5_stepsOf) := goodIn_app (goodIn_of _ (by decide +kernel)) ggL_law_X5_stepsOf
set_option maxRecDepth 20000 in
theorem ggL_law_X6_stepsOf : GoodIn wsL_law wsX6_stepsOf := goodIn_r _ [655, 66, 235, 236, 5, 237, 656, 657, 658, 659, 636, 637, 638, 639, 395, 396, 397, 398, 399, 400, 401, 402, 403, 404, 405, 406, 533, 534, 535, 919, 920, 921, 922, 923, 924, 925, 926, 927, 928, 929, 930, 931, 932, 933, 934, 935, 936, 937, 938, 939] (by decide +kernel) (by decide +kernel)
set_option maxRecDepth 20000 in
theorem gL_law_X6_stepsOf : GoodIn wsL_law (wsV RL 84 RX6 yX6_stepsOf wsX6_stepsOf) := goodIn_app (goodIn_of _ (by decide +kernel)) ggL_law_X6_stepsOf
set_option maxRecDepth 20000 in
theorem ggL_law_X5_shares : GoodIn wsL_law wsX5_shares := goodIn_r _ [663, 84, 585, 16, 90, 91, 92, 2, 93, 20, 326, 204, 205, 586, 587, 588, 589, 94, 95, 96, 97, 98, 99, 100, 590, 591, 592, 15, 593, 488, 501, 118, 119, 41, 120, 121, 51, 594, 595, 596, 597, 32, 287, 645, 646, 647, 648, 649, 650, 184, 651, 357, 358, 359, 360, 365, 366, 367, 368, 30, 31, 369, 370, 371, 372, 373, 374, 950, 951, 952, 957, 958, 959, 912, 913, 914, 915, 916, 917, 918, 940, 941, 942, 943, 944, 945, 946, 947, 948, 949] (by decide +kernel) (by decide +kernel)
set_option maxRecDepth 20000 in
theorem gL_law_X5_shares : GoodIn wsL_law (wsV RL 85 RX5 yX5_shares wsX5_shares) := goodIn_app (goodIn_of _ (by decide +kernel)) ggL_law_X5_shares
set_option maxRecDepth 20000 in
theorem ggL_law_X6_shares : GoodIn wsL_law wsX6_shares := goodIn_r _ [667, 331, 231, 232, 5, 233, 234, 235, 236, 237, 603, 604, 605, 606, 72, 78, 73, 66, 516, 227, 228, 229, 230, 70, 71, 668, 669, 670, 671, 656, 657, 658, 659, 636, 637, 638, 639, 395, 396, 397, 398, 399, 400, 401, 402, 403, 404, 405, 406, 533, 534, 535, 919, 920, 921, 922, 923, 924, 925, 926, 927, 928, 929, 930, 931, 932, 933, 934, 935, 936, 937, 938, 939] (by decide +kernel) (by decide +kernel)
set_option maxRecDepth 20000 in
theorem gL_law_X6_shares : GoodIn wsL_law (wsV RL 88 RX6 yX6_shares wsX6_shares) := goodIn_app (goodIn_of _ (by decide +kernel)) ggL_law_X6_shares
set_option maxRecDepth 20000 in
theorem ggL_law_X5_words : GoodIn wsL_law wsX5_words := goodIn_r _ [675, 84, 85, 16, 585, 90, 91, 92, 2, 93, 20, 544, 214, 215, 676, 677, 678, 100, 590, 591, 592, 15, 593, 488, 501, 118, 119, 41, 120, 121, 51, 594, 595, 596, 597, 32, 287, 645, 646, 647, 648, 649, 650, 184, 651, 357, 358, 359, 360, 365, 366, 367, 368, 30, 31, 369, 370, 371, 372, 373, 374, 950, 951, 952, 957, 958, 959, 912, 913, 914, 915, 916, 917, 918, 940, 941, 942, 943, 944, 945, 946, 947, 948, 949] (by decide +kernel) (by decide +kernel)
set_option maxRecDepth 20000 in
theorem gL_law_X5_words : GoodIn wsL_law (wsV RL 89 RX5 yX5_words wsX5_words) := goodIn_app (goodIn_of _ (by decide +kernel)) ggL_law_X5_words
set_option maxRecDepth 20000 in
theorem ggL_law_X6_words : GoodIn wsL_law wsX6_words := goodIn_r _ [682, 70, 71, 72, 516, 73, 78, 231, 232, 5, 233, 234, 235, 236, 237, 603, 604, 605, 606, 66, 227, 228, 229, 230, 656, 657, 658, 659, 636, 637, 638, 639, 395, 396, 397, 398, 399, 400, 401, 402, 403, 404, 405, 406, 533, 534, 535, 919, 920, 921, 922, 923, 924, 925, 926, 927, 928, 929, 930, 931, 932, 933, 934, 935, 936, 937, 938, 939] (by decide +kernel) (by decide +kernel)
set_option maxRecDepth 20000 in
theorem gL_law_X6_words : GoodIn wsL_law (wsV RL 92 RX6 yX6_words wsX6_words) := goodIn_app (goodIn_of _ (by decide +kernel)) ggL_law_X6_words
set_option maxRecDepth 20000 in
theorem ggL_law_X5_ahead : GoodIn wsL_law wsX5_ahead := goodIn_r _ [686, 18, 16, 687, 688, 84, 585, 90, 91, 92, 2, 93, 20, 305, 212, 15, 213, 214, 215, 586, 587, 588, 589, 94, 95, 96, 97, 98, 99, 100, 590, 591, 592, 593, 488, 501, 118, 119, 41, 120, 121, 51, 594, 595, 596, 597, 32, 154, 155, 156, 157, 30, 31, 33, 34, 158, 159, 36, 42, 160, 161, 162, 163, 38, 164, 165, 166, 167, 168, 169, 170, 171, 172, 173, 174, 175, 176, 177, 178, 179, 180, 181, 182, 183, 184, 185, 186, 187, 188, 189, 190, 287, 645, 646, 647, 648, 649, 650, 651, 357, 358, 359, 360, 365, 366, 367, 368, 369, 370, 371, 372, 373, 374, 631, 354, 355, 356, 361, 362, 363, 364, 912, 913, 914, 915, 916, 917, 918, 940, 941, 942, 943, 944, 945, 946, 947, 948, 949, 950, 951, 952, 957, 958, 959, 953, 954, 955, 956] (by decide +kernel) (by decide +kernel)
set_option maxRecDepth 20000 in
theorem gL_law_X5_ahead : GoodIn wsL_law (wsV RL 93 RX5 yX5_ahead wsX5_ahead) := goodIn_app (goodIn_of _ (by decide +kernel)) ggL_law_X5_ahead
set_option maxRecDepth 20000 in
theorem ggL_law_X6_ahead : GoodIn wsL_law wsX6_ahead := goodIn_r _ [692, 516, 78, 231, 232, 5, 233, 234, 235, 236, 237, 270, 271, 272, 273, 603, 604, 605, 606, 72, 73, 66, 227, 228, 229, 230, 70, 71, 656, 657, 658, 659, 636, 637, 638, 639, 395, 396, 397, 398, 399, 400, 401, 402, 403, 404, 405, 406, 533, 534, 535, 919, 920, 921, 922, 923, 924, 925, 926, 927, 928, 929, 930, 931, 932, 933, 934, 935, 936, 937, 938, 939] (by decide +kernel) (by decide +kernel)
set_option maxRecDepth 20000 in
theorem gL_law_X6_ahead : GoodIn wsL_law (wsV RL 96 RX6 yX6_ahead wsX6_ahead) := goodIn_app (goodIn_of _ (by decide +kernel)) ggL_law_X6_ahead
set_option maxRecDepth 20000 in
theorem ggL_law_X5_worth : GoodIn wsL_law wsX5_worth := goodIn_r _ [696, 697, 698, 16, 84, 699, 650, 184, 651, 90, 91, 92, 2, 93, 20, 586, 587, 588, 589, 94, 95, 96, 97, 98, 99, 100, 590, 591, 592, 15, 593, 488, 501, 118, 119, 41, 120, 121, 51, 594, 595, 596, 597, 32, 545, 494, 495, 496, 30, 444, 445, 446, 447, 546, 498, 499, 500, 31, 547, 548, 549, 550, 551, 552, 553, 369, 370, 631, 354, 355, 356, 357, 358, 359, 360, 361, 362, 363, 364, 365, 366, 367, 368, 371, 372, 373, 374, 912, 913, 914, 915, 916, 917, 918, 950, 951, 952, 957, 958, 959, 940, 941, 942, 943, 944, 945, 946, 947, 948, 949] (by decide +kernel) (by decide +kernel)
set_option maxRecDepth 20000 in
theorem gL_law_X5_worth : GoodIn wsL_law (wsV RL 97 RX5 yX5_worth wsX5_worth) := goodIn_app (goodIn_of _ (by decide +kernel)) ggL_law_X5_worth
set_option maxRecDepth 20000 in
theorem ggL_law_X6_worth : GoodIn wsL_law wsX6_worth := goodIn_r _ [703, 704, 705, 706, 231, 232, 5, 233, 234, 235, 236, 237, 603, 604, 605, 606, 72, 78, 73, 66, 516, 227, 228, 229, 230, 70, 71, 558, 559, 560, 561, 517, 518, 519, 520, 562, 563, 564, 565, 566, 567, 636, 637, 638, 639, 395, 396, 397, 398, 399, 400, 401, 402, 403, 404, 405, 406, 919, 920, 921, 922, 923, 924, 925, 926, 927, 928, 929, 930, 931, 932, 933, 934, 935, 936, 937, 938, 939] (by decide +kernel) (by decide +kernel)
set_option maxRecDepth 20000 in
theorem gL_law_X6_worth : GoodIn wsL_law (wsV RL 100 RX6 yX6_worth wsX6_worth) := goodIn_app (goodIn_of _ (by decide +kernel)) ggL_law_X6_worth
set_option maxRecDepth 20000 in
theorem ggL_law_X5_jokers : GoodIn wsL_law wsX5_jokers := goodIn_r _ [710, 84, 585, 16, 711, 687, 688, 90, 91, 92, 2, 93, 20, 544, 214, 215, 586, 587, 588, 589, 94, 95, 96, 97, 98, 99, 100, 590, 591, 592, 15, 593, 488, 501, 118, 119, 41, 120, 121, 51, 594, 595, 596, 597, 32, 598, 445, 446, 447, 712, 713, 714, 715, 547, 548, 549, 550, 551, 552, 553, 369, 370, 950, 951, 952, 957, 958, 959, 912, 913, 914, 915, 916, 917, 918, 940, 941, 942, 943, 944, 945, 946, 947, 948, 949] (by decide +kernel) (by decide +kernel)
set_option maxRecDepth 20000 in
theorem gL_law_X5_jokers : GoodIn wsL_law (wsV RL 101 RX5 yX5_jokers wsX5_jokers) := goodIn_app (goodIn_of _ (by decide +kernel)) ggL_law_X5_jokers
set_option maxRecDepth 20000 in
theorem ggL_law_X6_jokers : GoodIn wsL_law wsX6_jokers := goodIn_r _ [719, 516, 78, 66, 231, 232, 5, 233, 234, 235, 236, 237, 603, 604, 605, 606, 72, 73, 227, 228, 229, 230, 70, 71, 517, 518, 519, 520, 562, 563, 564, 565, 566, 567, 919, 920, 921, 922, 923, 924, 925, 926, 927, 928, 929, 930, 931, 932, 933, 934, 935, 936, 937, 938, 939] (by decide +kernel) (by decide +kernel)
set_option maxRecDepth 20000 in
theorem gL_law_X6_jokers : GoodIn wsL_law (wsV RL 104 RX6 yX6_jokers wsX6_jokers) := goodIn_app (goodIn_of _ (by decide +kernel)) ggL_law_X6_jokers
set_option maxRecDepth 20000 in
theorem ggL_law_X5_differ : GoodIn wsL_law wsX5_differ := goodIn_r _ [723, 16, 84, 24, 25, 585, 699, 650, 184, 651, 90, 91, 92, 2, 93, 20, 676, 677, 678, 100, 590, 591, 592, 15, 593, 488, 501, 118, 119, 41, 120, 121, 51, 594, 595, 596, 597, 32, 724, 725, 726, 727, 728, 187, 188, 189, 729, 646, 647, 648, 649, 357, 358, 359, 360, 365, 366, 367, 368, 30, 31, 369, 370, 371, 372, 373, 374, 912, 913, 914, 915, 916, 917, 918, 950, 951, 952, 957, 958, 959, 940, 941, 942, 943, 944, 945, 946, 947, 948, 949] (by decide +kernel) (by decide +kernel)
set_option maxRecDepth 20000 in
theorem gL_law_X5_differ : GoodIn wsL_law (wsV RL 105 RX5 yX5_differ wsX5_differ) := goodIn_app (goodIn_of _ (by decide +kernel)) ggL_law_X5_differ
set_option maxRecDepth 20000 in
theorem ggL_law_X6_differ : GoodIn wsL_law wsX6_differ := goodIn_r _ [733, 70, 79, 72, 231, 232, 5, 233, 234, 235, 236, 237, 603, 604, 605, 606, 78, 73, 66, 516, 227, 228, 229, 230, 71, 668, 669, 670, 671, 656, 657, 658, 659, 636, 637, 638, 639, 395, 396, 397, 398, 399, 400, 401, 402, 403, 404, 405, 406, 533, 534, 535, 919, 920, 921, 922, 923, 924, 925, 926, 927, 928, 929, 930, 931, 932, 933, 934, 935, 936, 937, 938, 939] (by decide +kernel) (by decide +kernel)
set_option maxRecDepth 20000 in
theorem gL_law_X6_differ : GoodIn wsL_law (wsV RL 108 RX6 yX6_differ wsX6_differ) := goodIn_app (goodIn_of _ (by decide +kernel)) ggL_law_X6_differ
set_option maxRecDepth 20000 in
theorem ggL_law_X5_judge : GoodIn wsL_law wsX5_judge := goodIn_r _ [737, 16, 281, 84, 585, 423, 282, 90, 91, 92, 2, 93, 20, 94, 95, 96, 97, 98, 99, 100, 738, 739, 740, 41, 741, 177, 742, 287, 118, 119, 120, 121, 51, 912, 913, 914, 915, 916, 917, 918, 940, 941, 942, 943, 944, 945, 946, 947, 948, 949, 950, 951, 952, 957, 958, 959] (by decide +kernel) (by decide +kernel)
set_option maxRecDepth 20000 in
theorem gL_law_X5_judge : GoodIn wsL_law (wsV RL 109 RX5 yX5_judge wsX5_judge) := goodIn_app (goodIn_of _ (by decide +kernel)) ggL_law_X5_judge
set_option maxRecDepth 20000 in
theorem ggL_law_X6_judge : GoodIn wsL_law wsX6_judge := goodIn_r _ [746, 66, 72, 73, 231, 232, 5, 233, 234, 235, 236, 237, 227, 228, 229, 230, 70, 71, 747, 748, 749, 750, 751, 297, 298, 299, 300, 919, 920, 921, 922, 923, 924, 925, 926, 927, 928, 929, 930, 931, 932, 933, 934, 935, 936, 937, 938, 939] (by decide +kernel) (by decide +kernel)
set_option maxRecDepth 20000 in
theorem gL_law_X6_judge : GoodIn wsL_law (wsV RL 112 RX6 yX6_judge wsX6_judge) := goodIn_app (goodIn_of _ (by decide +kernel)) ggL_law_X6_judge
set_option maxRecDepth 20000 in
theorem ggL_law_X5_ends : GoodIn wsL_law wsX5_ends := goodIn_r _ [755, 16, 544, 214, 2, 215, 756, 358, 359, 15, 360, 32, 757, 366, 367, 368, 30, 31, 369, 370, 371, 372, 373, 374, 912, 913, 914, 915, 916, 917, 918, 940, 941, 942, 943, 944, 945, 946, 947, 948, 949] (by decide +kernel) (by decide +kernel)
set_option maxRecDepth 20000 in
theorem gL_law_X5_ends : GoodIn wsL_law (wsV RL 113 RX5 yX5_ends wsX5_ends) := goodIn_app (goodIn_of _ (by decide +kernel)) ggL_law_X5_ends
set_option maxRecDepth 20000 in
theorem ggL_law_X6_ends : GoodIn wsL_law wsX6_ends := goodIn_r _ [761, 66, 235, 236, 5, 237, 399, 400, 401, 402, 403, 404, 405, 406, 919, 920, 921, 922, 923, 924, 925, 926, 927, 928, 929, 930, 931, 932, 933, 934, 935, 936, 937, 938, 939] (by decide +kernel) (by decide +kernel)
set_option maxRecDepth 20000 in
theorem gL_law_X6_ends : GoodIn wsL_law (wsV RL 116 RX6 yX6_ends wsX6_ends) := goodIn_app (goodIn_of _ (by decide +kernel)) ggL_law_X6_ends
set_option maxRecDepth 20000 in
theorem ggL_law_X5_parts : GoodIn wsL_law wsX5_parts := goodIn_r _ [765, 16, 18, 687, 699, 650, 184, 651, 283, 284, 285, 15, 286, 159, 36, 544, 214, 2, 215, 336, 337, 338, 38, 339, 166, 154, 155, 156, 157, 30, 31, 32, 33, 34, 158, 42, 160, 161, 162, 163, 164, 165, 167, 168, 169, 170, 171, 172, 173, 174, 175, 41, 176, 177, 121, 51, 178, 179, 180, 181, 182, 183, 185, 186, 187, 188, 189, 190, 118, 119, 120, 340, 341, 342, 343, 344, 345, 346, 347, 348, 349, 350, 351, 352, 353, 354, 355, 356, 357, 358, 359, 360, 361, 362, 363, 364, 365, 366, 367, 368, 369, 370, 371, 372, 373, 374, 375, 376, 377, 378, 379, 380, 381, 382, 912, 913, 914, 915, 916, 917, 918, 940, 941, 942, 943, 944, 945, 946, 947, 948, 949, 953, 954, 955, 956, 957, 958, 959] (by decide +kernel) (by decide +kernel)
set_option maxRecDepth 20000 in
theorem gL_law_X5_parts : GoodIn wsL_law (wsV RL 117 RX5 yX5_parts wsX5_parts) := goodIn_app (goodIn_of _ (by decide +kernel)) ggL_law_X5_parts
set_option maxRecDepth 20000 in
theorem ggL_law_X6_parts : GoodIn wsL_law wsX6_parts := goodIn_r _ [769, 66, 293, 294, 295, 5, 296, 235, 236, 237, 387, 388, 389, 390, 297, 298, 299, 300, 391, 392, 393, 394, 395, 396, 397, 398, 399, 400, 401, 402, 403, 404, 405, 406, 407, 408, 409, 410, 411, 412, 413, 414, 415, 416, 417, 418, 533, 534, 535, 919, 920, 921, 922, 923, 924, 925, 926, 927, 928, 929, 930, 931, 932, 933, 934, 935, 936, 937, 938, 939] (by decide +kernel) (by decide +kernel)
set_option maxRecDepth 20000 in
theorem gL_law_X6_parts : GoodIn wsL_law (wsV RL 120 RX6 yX6_parts wsX6_parts) := goodIn_app (goodIn_of _ (by decide +kernel)) ggL_law_X6_parts
set_option maxRecDepth 20000 in
theorem ggL_law_X5_image : GoodIn wsL_law wsX5_image := goodIn_r _ [773, 17, 16, 774, 423, 154, 155, 156, 15, 157, 30, 31, 32, 33, 34, 158, 159, 36, 42, 160, 161, 162, 163, 38, 164, 165, 166, 167, 168, 169, 170, 171, 172, 173, 174, 175, 41, 176, 177, 121, 51, 178, 179, 180, 181, 182, 183, 184, 185, 186, 187, 188, 189, 190, 118, 119, 120, 912, 913, 914, 915, 916, 917, 918, 940, 941, 942, 943, 944, 945, 946, 947, 948, 949, 953, 954, 955, 956, 957, 958, 959] (by decide +kernel) (by decide +kernel)
set_option maxRecDepth 20000 in
theorem gL_law_X5_image : GoodIn wsL_law (wsV RL 121 RX5 yX5_image wsX5_image) := goodIn_app (goodIn_of _ (by decide +kernel)) ggL_law_X5_image
set_option maxRecDepth 20000 in
theorem ggL_law_X6_image : GoodIn wsL_law wsX6_image := goodIn_r _ [778, 67, 66, 779, 919, 920, 921, 922, 923, 924, 925, 926, 927, 928, 929, 930, 931, 932, 933, 934, 935, 936, 937, 938, 939] (by decide +kernel) (by decide +kernel)
set_option maxRecDepth 20000 in
theorem gL_law_X6_image : GoodIn wsL_law (wsV RL 124 RX6 yX6_image wsX6_image) := goodIn_app (goodIn_of _ (by decide +kernel)) ggL_law_X6_image
set_option maxRecDepth 20000 in
theorem ggL_law_X5_restore : GoodIn wsL_law wsX5_restore := goodIn_r _ [783, 774, 16, 17, 423, 154, 155, 156, 15, 157, 30, 31, 32, 33, 34, 158, 159, 36, 42, 160, 161, 162, 163, 38, 164, 165, 166, 167, 168, 169, 170, 171, 172, 173, 174, 175, 41, 176, 177, 121, 51, 178, 179, 180, 181, 182, 183, 184, 185, 186, 187, 188, 189, 190, 118, 119, 120, 912, 913, 914, 915, 916, 917, 918, 940, 941, 942, 943, 944, 945, 946, 947, 948, 949, 953, 954, 955, 956, 957, 958, 959] (by decide +kernel) (by decide +kernel)
set_option maxRecDepth 20000 in
theorem gL_law_X5_restore : GoodIn wsL_law (wsV RL 125 RX5 yX5_restore wsX5_restore) := goodIn_app (goodIn_of _ (by decide +kernel)) ggL_law_X5_restore
set_option maxRecDepth 20000 in
theorem ggL_law_X6_restore : GoodIn wsL_law wsX6_restore := goodIn_r _ [787, 779, 66, 67, 919, 920, 921, 922, 923, 924, 925, 926, 927, 928, 929, 930, 931, 932, 933, 934, 935, 936, 937, 938, 939] (by decide +kernel) (by decide +kernel)
set_option maxRecDepth 20000 in
theorem gL_law_X6_restore : GoodIn wsL_law (wsV RL 128 RX6 yX6_restore wsX6_restore) := goodIn_app (goodIn_of _ (by decide +kernel)) ggL_law_X6_restore
set_option maxRecDepth 20000 in
theorem ggL_law_X5_count : GoodIn wsL_law wsX5_count := goodIn_r _ [791, 16, 423, 281, 687, 688, 711, 792, 793, 794, 15, 795, 159, 36, 345, 912, 913, 914, 915, 916, 917, 918, 940, 941, 942, 943, 944, 945, 946, 947, 948, 949, 953, 954, 955, 956] (by decide +kernel) (by decide +kernel)
set_option maxRecDepth 20000 in
theorem gL_law_X5_count : GoodIn wsL_law (wsV RL 129 RX5 yX5_count wsX5_count) := goodIn_app (goodIn_of _ (by decide +kernel)) ggL_law_X5_count
set_option maxRecDepth 20000 in
theorem ggL_law_X6_count : GoodIn wsL_law wsX6_count := goodIn_r _ [799, 66, 297, 298, 299, 5, 300, 919, 920, 921, 922, 923, 924, 925, 926, 927, 928, 929, 930, 931, 932, 933, 934, 935, 936, 937, 938, 939] (by decide +kernel) (by decide +kernel)
set_option maxRecDepth 20000 in
theorem gL_law_X6_count : GoodIn wsL_law (wsV RL 132 RX6 yX6_count wsX6_count) := goodIn_app (goodIn_of _ (by decide +kernel)) ggL_law_X6_count
set_option maxRecDepth 20000 in
theorem ggL_law_X5_keep : GoodIn wsL_law wsX5_keep := goodIn_r _ [803, 100, 16, 804, 90, 91, 92, 2, 93, 20, 544, 214, 215, 283, 284, 285, 15, 286, 159, 36, 805, 162, 163, 38, 164, 165, 166, 167, 168, 169, 170, 171, 172, 950, 951, 952, 912, 913, 914, 915, 916, 917, 918, 940, 941, 942, 943, 944, 945, 946, 947, 948, 949, 953, 954, 955, 956] (by decide +kernel) (by decide +kernel)
set_option maxRecDepth 20000 in
theorem gL_law_X5_keep : GoodIn wsL_law (wsV RL 133 RX5 yX5_keep wsX5_keep) := goodIn_app (goodIn_of _ (by decide +kernel)) ggL_law_X5_keep
set_option maxRecDepth 20000 in
theorem ggL_law_X6_keep : GoodIn wsL_law wsX6_keep := goodIn_r _ [809, 70, 74, 75, 231, 232, 5, 233, 234, 235, 236, 237, 293, 294, 295, 296, 66, 297, 298, 299, 300, 810, 811, 812, 813, 919, 920, 921, 922, 923, 924, 925, 926, 927, 928, 929, 930, 931, 932, 933, 934, 935, 936, 937, 938, 939] (by decide +kernel) (by decide +kernel)
set_option maxRecDepth 20000 in
theorem gL_law_X6_keep : GoodIn wsL_law (wsV RL 136 RX6 yX6_keep wsX6_keep) := goodIn_app (goodIn_of _ (by decide +kernel)) ggL_law_X6_keep
set_option maxRecDepth 20000 in
theorem ggL_law_X5_row : GoodIn wsL_law wsX5_row := goodIn_r _ [817, 100, 84, 90, 91, 92, 2, 93, 20, 818, 179, 180, 41, 181, 177, 51, 182, 183, 184, 185, 121, 186, 187, 188, 189, 950, 951, 952, 912, 913, 914, 915, 916, 917, 918, 957, 958, 959] (by decide +kernel) (by decide +kernel)
set_option maxRecDepth 20000 in
theorem gL_law_X5_row : GoodIn wsL_law (wsV RL 137 RX5 yX5_row wsX5_row) := goodIn_app (goodIn_of _ (by decide +kernel)) ggL_law_X5_row
set_option maxRecDepth 20000 in
theorem ggL_law_X6_row : GoodIn wsL_law wsX6_row := goodIn_r _ [822, 511, 70, 71, 72, 73, 231, 232, 5, 233, 234, 235, 236, 237, 919, 920, 921, 922, 923, 924, 925, 926, 927, 928, 929, 930, 931, 932, 933, 934, 935, 936, 937, 938, 939] (by decide +kernel) (by decide +kernel)
set_option maxRecDepth 20000 in
theorem gL_law_X6_row : GoodIn wsL_law (wsV RL 140 RX6 yX6_row wsX6_row) := goodIn_app (goodIn_of _ (by decide +kernel)) ggL_law_X6_row
set_option maxRecDepth 20000 in
theorem ggL_law_X5_put : GoodIn wsL_law wsX5_put := goodIn_r _ [826, 84, 90, 91, 92, 2, 93, 20, 94, 95, 96, 97, 98, 99, 100, 827, 127, 128, 41, 129, 121, 828, 436, 437, 438, 51, 439, 440, 441, 442, 443, 177, 950, 951, 952, 912, 913, 914, 915, 916, 917, 918, 957, 958, 959] (by decide +kernel) (by decide +kernel)
set_option maxRecDepth 20000 in
theorem gL_law_X5_put : GoodIn wsL_law (wsV RL 141 RX5 yX5_put wsX5_put) := goodIn_app (goodIn_of _ (by decide +kernel)) ggL_law_X5_put
set_option maxRecDepth 20000 in
theorem ggL_law_X6_put : GoodIn wsL_law wsX6_put := goodIn_r _ [832, 72, 73, 71, 227, 228, 229, 5, 230, 70, 231, 232, 233, 234, 235, 236, 237, 919, 920, 921, 922, 923, 924, 925, 926, 927, 928, 929, 930, 931, 932, 933, 934, 935, 936, 937, 938, 939] (by decide +kernel) (by decide +kernel)
set_option maxRecDepth 20000 in
theorem gL_law_X6_put : GoodIn wsL_law (wsV RL 144 RX6 yX6_put wsX6_put) := goodIn_app (goodIn_of _ (by decide +kernel)) ggL_law_X6_put
set_option maxRecDepth 20000 in
theorem ggL_law_L_element : GoodIn wsL_law wsL_element := goodIn_ca (goodIn_ca (goodIn_r _ [836, 837, 838, 839, 840, 841, 2, 842, 843, 844, 845, 846, 100, 84, 90, 91, 92, 93, 20, 827, 127, 128, 41, 129, 121, 287, 118, 119, 120, 51, 950, 951, 952, 912, 913, 914, 915, 916, 917, 918, 957, 958, 959] (by decide +kernel) (by decide +kernel)) (goodIn_sub (fun _ h => List.mem_append_left _ (List.mem_append_left _ (List.mem_append_left _ (List.mem_append_left _ (List.mem_append_right _ h))))) (by decide +kernel))) (goodIn_sub (fun _ h => List.mem_append_left _ (List.mem_append_left _ (List.mem_append_left _ (List.mem_append_right _ h)))) (by decide +kernel))
set_option maxRecDepth 20000 in
theorem gL_law_L_element : GoodIn wsL_law (va_wsS RL 145 yL_element wsL_element) := goodIn_app (goodIn_of _ (by decide +kernel)) ggL_law_L_element
set_option maxRecDepth 20000 in
theorem ggL_law_X6_element : GoodIn wsL_law wsX6_element := goodIn_r _ [850, 70, 72, 851, 73, 231, 232, 5, 233, 234, 235, 236, 237, 919, 920, 921, 922, 923, 924, 925, 926, 927, 928, 929, 930, 931, 932, 933, 934, 935, 936, 937, 938, 939] (by decide +kernel) (by decide +kernel)
set_option maxRecDepth 20000 in
theorem gL_law_X6_element : GoodIn wsL_law (wsV RL 150 RX6 yX6_element wsX6_element) := goodIn_app (goodIn_of _ (by decide +kernel)) ggL_law_X6_element
set_option maxRecDepth 20000 in
theorem ggL_law_X6_thrown : GoodIn wsL_law wsX6_thrown := goodIn_r _ [855, 851, 919, 920, 921, 922, 923, 924, 925, 926, 927, 928, 929, 930, 931, 932, 933, 934, 935, 936, 937, 938, 939] (by decide +kernel) (by decide +kernel)
set_option maxRecDepth 20000 in
theorem gL_law_X6_thrown : GoodIn wsL_law (wsV RL 151 RX6 yX6_thrown wsX6_thrown) := goodIn_app (goodIn_of _ (by decide +kernel)) ggL_law_X6_thrown
set_option maxRecDepth 20000 in
theorem ggL_law_X5_copy : GoodIn wsL_law wsX5_copy := goodIn_r _ [859, 84, 85, 860, 861, 862, 863, 864, 90, 91, 92, 2, 93, 20, 676, 677, 678, 100, 865, 866, 867, 41, 868, 121, 950, 951, 952, 957, 958, 959, 912, 913, 914, 915, 916, 917, 918] (by decide +kernel) (by decide +kernel)
set_option maxRecDepth 20000 in
theorem gL_law_X5_copy : GoodIn wsL_law (wsV RL 154 RX5 yX5_copy wsX5_copy) := goodIn_app (goodIn_of _ (by decide +kernel)) ggL_law_X5_copy
set_option maxRecDepth 20000 in
theorem ggL_law_X6_copy : GoodIn wsL_law wsX6_copy := goodIn_r _ [872, 70, 71, 72, 73, 231, 232, 5, 233, 234, 235, 236, 237, 919, 920, 921, 922, 923, 924, 925, 926, 927, 928, 929, 930, 931, 932, 933, 934, 935, 936, 937, 938, 939] (by decide +kernel) (by decide +kernel)
set_option maxRecDepth 20000 in
theorem gL_law_X6_copy : GoodIn wsL_law (wsV RL 158 RX6 yX6_copy wsX6_copy) := goodIn_app (goodIn_of _ (by decide +kernel)) ggL_law_X6_copy
set_option maxRecDepth 20000 in
theorem ggL_law_X5_depth : GoodIn wsL_law wsX5_depth := goodIn_r _ [876, 877, 804, 90, 91, 92, 2, 93, 20, 878, 879, 880, 97, 98, 99, 100, 881, 882, 883, 38, 884, 168, 167, 166, 950, 951, 952, 912, 913, 914, 915, 916, 917, 918, 953, 954, 955, 956] (by decide +kernel) (by decide +kernel)
set_option maxRecDepth 20000 in
theorem gL_law_X5_depth : GoodIn wsL_law (wsV RL 159 RX5 yX5_depth wsX5_depth) := goodIn_app (goodIn_of _ (by decide +kernel)) ggL_law_X5_depth
set_option maxRecDepth 20000 in
theorem ggL_law_X6_depth : GoodIn wsL_law wsX6_depth := goodIn_r _ [888, 889, 74, 890, 891, 892, 5, 893, 70, 231, 232, 233, 234, 235, 236, 237, 919, 920, 921, 922, 923, 924, 925, 926, 927, 928, 929, 930, 931, 932, 933, 934, 935, 936, 937, 938, 939] (by decide +kernel) (by decide +kernel)
set_option maxRecDepth 20000 in
theorem gL_law_X6_depth : GoodIn wsL_law (wsV RL 162 RX6 yX6_depth wsX6_depth) := goodIn_app (goodIn_of _ (by decide +kernel)) ggL_law_X6_depth
set_option maxRecDepth 20000 in
theorem ggL_law_X5_toss : GoodIn wsL_law wsX5_toss := goodIn_ca (goodIn_ca (goodIn_ca (goodIn_r _ [897, 898, 843, 845, 804, 899, 90, 91, 92, 2, 93, 20, 878, 879, 880, 97, 98, 99, 100, 900, 901, 902, 38, 903, 904, 905, 906, 844, 907, 846, 166, 167, 881, 882, 883, 884, 168, 950, 951, 952, 953, 954, 955, 956, 912, 913, 914, 915, 916, 917, 918] (by decide +kernel) (by decide +kernel)) (goodIn_sub (fun _ h => List.mem_append_left _ (List.mem_append_left _ (List.mem_append_right _ h))) (by decide +kernel))) (goodIn_sub (fun _ h => List.mem_append_left _ (List.mem_append_right _ h)) (by decide +kernel))) (goodIn_sub (fun _ h => List.mem_append_right _ h) (by decide +kernel))
set_option maxRecDepth 20000 in
theorem gL_law_X5_toss : GoodIn wsL_law (wsV RL 163 RX5 yX5_toss wsX5_toss) := goodIn_app (goodIn_of _ (by decide +kernel)) ggL_law_X5_toss
set_option maxRecDepth 20000 in
theorem ggL_law_X6_toss : GoodIn wsL_law wsX6_toss := goodIn_r _ [911, 75, 890, 891, 892, 5, 893, 70, 231, 232, 233, 234, 235, 236, 237, 919, 920, 921, 922, 923, 924, 925, 926, 927, 928, 929, 930, 931, 932, 933, 934, 935, 936, 937, 938, 939] (by decide +kernel) (by decide +kernel)
set_option maxRecDepth 20000 in
theorem gL_law_X6_toss : GoodIn wsL_law (wsV RL 166 RX6 yX6_toss wsX6_toss) := goodIn_app (goodIn_of _ (by decide +kernel)) ggL_law_X6_toss
theorem dL_law_0 : decode cL_law 0 = .ok (.new 8, 3) := by decide +kernel
theorem dL_law_3 : decode cL_law 3 = .ok (.dup, 1) := by decide +kernel
theorem dL_law_4 : decode cL_law 4 = .ok (.invokespecial 17, 3) := by decide +kernel
theorem dL_law_7 : decode cL_law 7 = .ok (.astore_n 1, 1) := by decide +kernel
theorem dL_law_8 : decode cL_law 8 = .ok (.new 18, 3) := by decide +kernel
theorem dL_law_11 : decode cL_law 11 = .ok (.dup, 1) := by decide +kernel
theorem dL_law_12 : decode cL_law 12 = .ok (.invokespecial 20, 3) := by decide +kernel
theorem dL_law_15 : decode cL_law 15 = .ok (.astore_n 2, 1) := by decide +kernel
theorem dL_law_16 : decode cL_law 16 = .ok (.iconst 1, 1) := by decide +kernel
theorem dL_law_17 : decode cL_law 17 = .ok (.newarray .long, 2) := by decide +kernel
theorem dL_law_19 : decode cL_law 19 = .ok (.astore_n 3, 1) := by decide +kernel
theorem dL_law_20 : decode cL_law 20 = .ok (.iconst 0, 1) := by decide +kernel
theorem dL_law_21 : decode cL_law 21 = .ok (.istore 4, 2) := by decide +kernel
theorem dL_law_23 : decode cL_law 23 = .ok (.iload 4, 2) := by decide +kernel
theorem dL_law_25 : decode cL_law 25 = .ok (.aload_n 0, 1) := by decide +kernel
theorem dL_law_26 : decode cL_law 26 = .ok (.arraylength, 1) := by decide +kernel
theorem dL_law_27 : decode cL_law 27 = .ok (.bipush 6, 2) := by decide +kernel
theorem dL_law_29 : decode cL_law 29 = .ok (.isub, 1) := by decide +kernel
theorem dL_law_30 : decode cL_law 30 = .ok (.if_icmp .gt 1337, 3) := by decide +kernel
theorem dL_law_33 : decode cL_law 33 = .ok (.aload_n 0, 1) := by decide +kernel
theorem dL_law_34 : decode cL_law 34 = .ok (.iload 4, 2) := by decide +kernel
theorem dL_law_36 : decode cL_law 36 = .ok (.iaload, 1) := by decide +kernel
theorem dL_law_37 : decode cL_law 37 = .ok (.bipush 63, 2) := by decide +kernel
theorem dL_law_39 : decode cL_law 39 = .ok (.iand, 1) := by decide +kernel
theorem dL_law_40 : decode cL_law 40 = .ok (.tableswitch 1321 0 33 #[152, 177, 214, 251, 288, 313, 326, 339, 364, 389, 426, 475, 512, 537, 562, 587, 624, 673, 722, 760, 797, 834, 859, 884, 933, 946, 959, 984, 1033, 1082, 1131, 1198, 1271, 1296], 152) := by decide +kernel
theorem dL_law_192 : decode cL_law 192 = .ok (.aload_n 1, 1) := by decide +kernel
theorem dL_law_193 : decode cL_law 193 = .ok (.aload_n 0, 1) := by decide +kernel
theorem dL_law_194 : decode cL_law 194 = .ok (.iload 4, 2) := by decide +kernel
theorem dL_law_196 : decode cL_law 196 = .ok (.iconst 1, 1) := by decide +kernel
theorem dL_law_197 : decode cL_law 197 = .ok (.iadd, 1) := by decide +kernel
theorem dL_law_198 : decode cL_law 198 = .ok (.iaload, 1) := by decide +kernel
theorem dL_law_199 : decode cL_law 199 = .ok (.invokevirtual 21, 3) := by decide +kernel
theorem dL_law_202 : decode cL_law 202 = .ok (.aload_n 2, 1) := by decide +kernel
theorem dL_law_203 : decode cL_law 203 = .ok (.aload_n 0, 1) := by decide +kernel
theorem dL_law_204 : decode cL_law 204 = .ok (.iload 4, 2) := by decide +kernel
theorem dL_law_206 : decode cL_law 206 = .ok (.iconst 1, 1) := by decide +kernel
theorem dL_law_207 : decode cL_law 207 = .ok (.iadd, 1) := by decide +kernel
theorem dL_law_208 : decode cL_law 208 = .ok (.iaload, 1) := by decide +kernel
theorem dL_law_209 : decode cL_law 209 = .ok (.invokevirtual 25, 3) := by decide +kernel
theorem dL_law_212 : decode cL_law 212 = .ok (.if_icmp .eq 1149, 3) := by decide +kernel
theorem dL_law_215 : decode cL_law 215 = .ok (.iconst 0, 1) := by decide +kernel
theorem dL_law_216 : decode cL_law 216 = .ok (.ireturn, 1) := by decide +kernel
theorem dL_law_217 : decode cL_law 217 = .ok (.aload_n 1, 1) := by decide +kernel
theorem dL_law_218 : decode cL_law 218 = .ok (.aload_n 0, 1) := by decide +kernel
theorem dL_law_219 : decode cL_law 219 = .ok (.iload 4, 2) := by decide +kernel
theorem dL_law_221 : decode cL_law 221 = .ok (.iconst 1, 1) := by decide +kernel
theorem dL_law_222 : decode cL_law 222 = .ok (.iadd, 1) := by decide +kernel
theorem dL_law_223 : decode cL_law 223 = .ok (.iaload, 1) := by decide +kernel
theorem dL_law_224 : decode cL_law 224 = .ok (.aload_n 0, 1) := by decide +kernel
theorem dL_law_225 : decode cL_law 225 = .ok (.iload 4, 2) := by decide +kernel
theorem dL_law_227 : decode cL_law 227 = .ok (.iconst 2, 1) := by decide +kernel
theorem dL_law_228 : decode cL_law 228 = .ok (.iadd, 1) := by decide +kernel
theorem dL_law_229 : decode cL_law 229 = .ok (.iaload, 1) := by decide +kernel
theorem dL_law_230 : decode cL_law 230 = .ok (.invokevirtual 26, 3) := by decide +kernel
theorem dL_law_233 : decode cL_law 233 = .ok (.aload_n 2, 1) := by decide +kernel
theorem dL_law_234 : decode cL_law 234 = .ok (.aload_n 0, 1) := by decide +kernel
theorem dL_law_235 : decode cL_law 235 = .ok (.iload 4, 2) := by decide +kernel
theorem dL_law_237 : decode cL_law 237 = .ok (.iconst 1, 1) := by decide +kernel
theorem dL_law_238 : decode cL_law 238 = .ok (.iadd, 1) := by decide +kernel
theorem dL_law_239 : decode cL_law 239 = .ok (.iaload, 1) := by decide +kernel
theorem dL_law_240 : decode cL_law 240 = .ok (.aload_n 0, 1) := by decide +kernel
theorem dL_law_241 : decode cL_law 241 = .ok (.iload 4, 2) := by decide +kernel
theorem dL_law_243 : decode cL_law 243 = .ok (.iconst 2, 1) := by decide +kernel
theorem dL_law_244 : decode cL_law 244 = .ok (.iadd, 1) := by decide +kernel
theorem dL_law_245 : decode cL_law 245 = .ok (.iaload, 1) := by decide +kernel
theorem dL_law_246 : decode cL_law 246 = .ok (.invokevirtual 30, 3) := by decide +kernel
theorem dL_law_249 : decode cL_law 249 = .ok (.if_icmp .eq 1112, 3) := by decide +kernel
theorem dL_law_252 : decode cL_law 252 = .ok (.iconst 0, 1) := by decide +kernel
theorem dL_law_253 : decode cL_law 253 = .ok (.ireturn, 1) := by decide +kernel
theorem dL_law_254 : decode cL_law 254 = .ok (.aload_n 1, 1) := by decide +kernel
theorem dL_law_255 : decode cL_law 255 = .ok (.aload_n 0, 1) := by decide +kernel
theorem dL_law_256 : decode cL_law 256 = .ok (.iload 4, 2) := by decide +kernel
theorem dL_law_258 : decode cL_law 258 = .ok (.iconst 1, 1) := by decide +kernel
theorem dL_law_259 : decode cL_law 259 = .ok (.iadd, 1) := by decide +kernel
theorem dL_law_260 : decode cL_law 260 = .ok (.iaload, 1) := by decide +kernel
theorem dL_law_261 : decode cL_law 261 = .ok (.aload_n 0, 1) := by decide +kernel
theorem dL_law_262 : decode cL_law 262 = .ok (.iload 4, 2) := by decide +kernel
theorem dL_law_264 : decode cL_law 264 = .ok (.iconst 2, 1) := by decide +kernel
theorem dL_law_265 : decode cL_law 265 = .ok (.iadd, 1) := by decide +kernel
theorem dL_law_266 : decode cL_law 266 = .ok (.iaload, 1) := by decide +kernel
theorem dL_law_267 : decode cL_law 267 = .ok (.invokevirtual 31, 3) := by decide +kernel
theorem dL_law_270 : decode cL_law 270 = .ok (.aload_n 2, 1) := by decide +kernel
theorem dL_law_271 : decode cL_law 271 = .ok (.aload_n 0, 1) := by decide +kernel
theorem dL_law_272 : decode cL_law 272 = .ok (.iload 4, 2) := by decide +kernel
theorem dL_law_274 : decode cL_law 274 = .ok (.iconst 1, 1) := by decide +kernel
theorem dL_law_275 : decode cL_law 275 = .ok (.iadd, 1) := by decide +kernel
theorem dL_law_276 : decode cL_law 276 = .ok (.iaload, 1) := by decide +kernel
theorem dL_law_277 : decode cL_law 277 = .ok (.aload_n 0, 1) := by decide +kernel
theorem dL_law_278 : decode cL_law 278 = .ok (.iload 4, 2) := by decide +kernel
theorem dL_law_280 : decode cL_law 280 = .ok (.iconst 2, 1) := by decide +kernel
theorem dL_law_281 : decode cL_law 281 = .ok (.iadd, 1) := by decide +kernel
theorem dL_law_282 : decode cL_law 282 = .ok (.iaload, 1) := by decide +kernel
theorem dL_law_283 : decode cL_law 283 = .ok (.invokevirtual 34, 3) := by decide +kernel
theorem dL_law_286 : decode cL_law 286 = .ok (.if_icmp .eq 1075, 3) := by decide +kernel
theorem dL_law_289 : decode cL_law 289 = .ok (.iconst 0, 1) := by decide +kernel
theorem dL_law_290 : decode cL_law 290 = .ok (.ireturn, 1) := by decide +kernel
theorem dL_law_291 : decode cL_law 291 = .ok (.aload_n 1, 1) := by decide +kernel
theorem dL_law_292 : decode cL_law 292 = .ok (.aload_n 0, 1) := by decide +kernel
theorem dL_law_293 : decode cL_law 293 = .ok (.iload 4, 2) := by decide +kernel
theorem dL_law_295 : decode cL_law 295 = .ok (.iconst 1, 1) := by decide +kernel
theorem dL_law_296 : decode cL_law 296 = .ok (.iadd, 1) := by decide +kernel
theorem dL_law_297 : decode cL_law 297 = .ok (.iaload, 1) := by decide +kernel
theorem dL_law_298 : decode cL_law 298 = .ok (.aload_n 0, 1) := by decide +kernel
theorem dL_law_299 : decode cL_law 299 = .ok (.iload 4, 2) := by decide +kernel
theorem dL_law_301 : decode cL_law 301 = .ok (.iconst 2, 1) := by decide +kernel
theorem dL_law_302 : decode cL_law 302 = .ok (.iadd, 1) := by decide +kernel
theorem dL_law_303 : decode cL_law 303 = .ok (.iaload, 1) := by decide +kernel
theorem dL_law_304 : decode cL_law 304 = .ok (.invokevirtual 35, 3) := by decide +kernel
theorem dL_law_307 : decode cL_law 307 = .ok (.aload_n 2, 1) := by decide +kernel
theorem dL_law_308 : decode cL_law 308 = .ok (.aload_n 0, 1) := by decide +kernel
theorem dL_law_309 : decode cL_law 309 = .ok (.iload 4, 2) := by decide +kernel
theorem dL_law_311 : decode cL_law 311 = .ok (.iconst 1, 1) := by decide +kernel
theorem dL_law_312 : decode cL_law 312 = .ok (.iadd, 1) := by decide +kernel
theorem dL_law_313 : decode cL_law 313 = .ok (.iaload, 1) := by decide +kernel
theorem dL_law_314 : decode cL_law 314 = .ok (.aload_n 0, 1) := by decide +kernel
theorem dL_law_315 : decode cL_law 315 = .ok (.iload 4, 2) := by decide +kernel
theorem dL_law_317 : decode cL_law 317 = .ok (.iconst 2, 1) := by decide +kernel
theorem dL_law_318 : decode cL_law 318 = .ok (.iadd, 1) := by decide +kernel
theorem dL_law_319 : decode cL_law 319 = .ok (.iaload, 1) := by decide +kernel
theorem dL_law_320 : decode cL_law 320 = .ok (.invokevirtual 38, 3) := by decide +kernel
theorem dL_law_323 : decode cL_law 323 = .ok (.if_icmp .eq 1038, 3) := by decide +kernel
theorem dL_law_326 : decode cL_law 326 = .ok (.iconst 0, 1) := by decide +kernel
theorem dL_law_327 : decode cL_law 327 = .ok (.ireturn, 1) := by decide +kernel
theorem dL_law_328 : decode cL_law 328 = .ok (.aload_n 1, 1) := by decide +kernel
theorem dL_law_329 : decode cL_law 329 = .ok (.aload_n 0, 1) := by decide +kernel
theorem dL_law_330 : decode cL_law 330 = .ok (.iload 4, 2) := by decide +kernel
theorem dL_law_332 : decode cL_law 332 = .ok (.iconst 1, 1) := by decide +kernel
theorem dL_law_333 : decode cL_law 333 = .ok (.iadd, 1) := by decide +kernel
theorem dL_law_334 : decode cL_law 334 = .ok (.iaload, 1) := by decide +kernel
theorem dL_law_335 : decode cL_law 335 = .ok (.invokevirtual 39, 3) := by decide +kernel
theorem dL_law_338 : decode cL_law 338 = .ok (.aload_n 2, 1) := by decide +kernel
theorem dL_law_339 : decode cL_law 339 = .ok (.aload_n 0, 1) := by decide +kernel
theorem dL_law_340 : decode cL_law 340 = .ok (.iload 4, 2) := by decide +kernel
theorem dL_law_342 : decode cL_law 342 = .ok (.iconst 1, 1) := by decide +kernel
theorem dL_law_343 : decode cL_law 343 = .ok (.iadd, 1) := by decide +kernel
theorem dL_law_344 : decode cL_law 344 = .ok (.iaload, 1) := by decide +kernel
theorem dL_law_345 : decode cL_law 345 = .ok (.invokevirtual 42, 3) := by decide +kernel
theorem dL_law_348 : decode cL_law 348 = .ok (.if_icmp .eq 1013, 3) := by decide +kernel
theorem dL_law_351 : decode cL_law 351 = .ok (.iconst 0, 1) := by decide +kernel
theorem dL_law_352 : decode cL_law 352 = .ok (.ireturn, 1) := by decide +kernel
theorem dL_law_353 : decode cL_law 353 = .ok (.aload_n 1, 1) := by decide +kernel
theorem dL_law_354 : decode cL_law 354 = .ok (.invokevirtual 43, 3) := by decide +kernel
theorem dL_law_357 : decode cL_law 357 = .ok (.aload_n 2, 1) := by decide +kernel
theorem dL_law_358 : decode cL_law 358 = .ok (.invokevirtual 47, 3) := by decide +kernel
theorem dL_law_361 : decode cL_law 361 = .ok (.if_icmp .eq 1000, 3) := by decide +kernel
theorem dL_law_364 : decode cL_law 364 = .ok (.iconst 0, 1) := by decide +kernel
theorem dL_law_365 : decode cL_law 365 = .ok (.ireturn, 1) := by decide +kernel
theorem dL_law_366 : decode cL_law 366 = .ok (.aload_n 1, 1) := by decide +kernel
theorem dL_law_367 : decode cL_law 367 = .ok (.invokevirtual 48, 3) := by decide +kernel
theorem dL_law_370 : decode cL_law 370 = .ok (.aload_n 2, 1) := by decide +kernel
theorem dL_law_371 : decode cL_law 371 = .ok (.invokevirtual 51, 3) := by decide +kernel
theorem dL_law_374 : decode cL_law 374 = .ok (.if_icmp .eq 987, 3) := by decide +kernel
theorem dL_law_377 : decode cL_law 377 = .ok (.iconst 0, 1) := by decide +kernel
theorem dL_law_378 : decode cL_law 378 = .ok (.ireturn, 1) := by decide +kernel
theorem dL_law_379 : decode cL_law 379 = .ok (.aload_n 1, 1) := by decide +kernel
theorem dL_law_380 : decode cL_law 380 = .ok (.aload_n 0, 1) := by decide +kernel
theorem dL_law_381 : decode cL_law 381 = .ok (.iload 4, 2) := by decide +kernel
theorem dL_law_383 : decode cL_law 383 = .ok (.iconst 1, 1) := by decide +kernel
theorem dL_law_384 : decode cL_law 384 = .ok (.iadd, 1) := by decide +kernel
theorem dL_law_385 : decode cL_law 385 = .ok (.iaload, 1) := by decide +kernel
theorem dL_law_386 : decode cL_law 386 = .ok (.invokevirtual 52, 3) := by decide +kernel
theorem dL_law_389 : decode cL_law 389 = .ok (.aload_n 2, 1) := by decide +kernel
theorem dL_law_390 : decode cL_law 390 = .ok (.aload_n 0, 1) := by decide +kernel
theorem dL_law_391 : decode cL_law 391 = .ok (.iload 4, 2) := by decide +kernel
theorem dL_law_393 : decode cL_law 393 = .ok (.iconst 1, 1) := by decide +kernel
theorem dL_law_394 : decode cL_law 394 = .ok (.iadd, 1) := by decide +kernel
theorem dL_law_395 : decode cL_law 395 = .ok (.iaload, 1) := by decide +kernel
theorem dL_law_396 : decode cL_law 396 = .ok (.invokevirtual 55, 3) := by decide +kernel
theorem dL_law_399 : decode cL_law 399 = .ok (.if_icmp .eq 962, 3) := by decide +kernel
theorem dL_law_402 : decode cL_law 402 = .ok (.iconst 0, 1) := by decide +kernel
theorem dL_law_403 : decode cL_law 403 = .ok (.ireturn, 1) := by decide +kernel
theorem dL_law_404 : decode cL_law 404 = .ok (.aload_n 1, 1) := by decide +kernel
theorem dL_law_405 : decode cL_law 405 = .ok (.aload_n 0, 1) := by decide +kernel
theorem dL_law_406 : decode cL_law 406 = .ok (.iload 4, 2) := by decide +kernel
theorem dL_law_408 : decode cL_law 408 = .ok (.iconst 1, 1) := by decide +kernel
theorem dL_law_409 : decode cL_law 409 = .ok (.iadd, 1) := by decide +kernel
theorem dL_law_410 : decode cL_law 410 = .ok (.iaload, 1) := by decide +kernel
theorem dL_law_411 : decode cL_law 411 = .ok (.invokevirtual 56, 3) := by decide +kernel
theorem dL_law_414 : decode cL_law 414 = .ok (.aload_n 2, 1) := by decide +kernel
theorem dL_law_415 : decode cL_law 415 = .ok (.aload_n 0, 1) := by decide +kernel
theorem dL_law_416 : decode cL_law 416 = .ok (.iload 4, 2) := by decide +kernel
theorem dL_law_418 : decode cL_law 418 = .ok (.iconst 1, 1) := by decide +kernel
theorem dL_law_419 : decode cL_law 419 = .ok (.iadd, 1) := by decide +kernel
theorem dL_law_420 : decode cL_law 420 = .ok (.iaload, 1) := by decide +kernel
theorem dL_law_421 : decode cL_law 421 = .ok (.invokevirtual 59, 3) := by decide +kernel
theorem dL_law_424 : decode cL_law 424 = .ok (.if_icmp .eq 937, 3) := by decide +kernel
theorem dL_law_427 : decode cL_law 427 = .ok (.iconst 0, 1) := by decide +kernel
theorem dL_law_428 : decode cL_law 428 = .ok (.ireturn, 1) := by decide +kernel
theorem dL_law_429 : decode cL_law 429 = .ok (.aload_n 1, 1) := by decide +kernel
theorem dL_law_430 : decode cL_law 430 = .ok (.aload_n 0, 1) := by decide +kernel
theorem dL_law_431 : decode cL_law 431 = .ok (.iload 4, 2) := by decide +kernel
theorem dL_law_433 : decode cL_law 433 = .ok (.iconst 1, 1) := by decide +kernel
theorem dL_law_434 : decode cL_law 434 = .ok (.iadd, 1) := by decide +kernel
theorem dL_law_435 : decode cL_law 435 = .ok (.iaload, 1) := by decide +kernel
theorem dL_law_436 : decode cL_law 436 = .ok (.aload_n 0, 1) := by decide +kernel
theorem dL_law_437 : decode cL_law 437 = .ok (.iload 4, 2) := by decide +kernel
theorem dL_law_439 : decode cL_law 439 = .ok (.iconst 2, 1) := by decide +kernel
theorem dL_law_440 : decode cL_law 440 = .ok (.iadd, 1) := by decide +kernel
theorem dL_law_441 : decode cL_law 441 = .ok (.iaload, 1) := by decide +kernel
theorem dL_law_442 : decode cL_law 442 = .ok (.invokevirtual 60, 3) := by decide +kernel
theorem dL_law_445 : decode cL_law 445 = .ok (.aload_n 2, 1) := by decide +kernel
theorem dL_law_446 : decode cL_law 446 = .ok (.aload_n 0, 1) := by decide +kernel
theorem dL_law_447 : decode cL_law 447 = .ok (.iload 4, 2) := by decide +kernel
theorem dL_law_449 : decode cL_law 449 = .ok (.iconst 1, 1) := by decide +kernel
theorem dL_law_450 : decode cL_law 450 = .ok (.iadd, 1) := by decide +kernel
theorem dL_law_451 : decode cL_law 451 = .ok (.iaload, 1) := by decide +kernel
theorem dL_law_452 : decode cL_law 452 = .ok (.aload_n 0, 1) := by decide +kernel
theorem dL_law_453 : decode cL_law 453 = .ok (.iload 4, 2) := by decide +kernel
theorem dL_law_455 : decode cL_law 455 = .ok (.iconst 2, 1) := by decide +kernel
theorem dL_law_456 : decode cL_law 456 = .ok (.iadd, 1) := by decide +kernel
theorem dL_law_457 : decode cL_law 457 = .ok (.iaload, 1) := by decide +kernel
theorem dL_law_458 : decode cL_law 458 = .ok (.invokevirtual 63, 3) := by decide +kernel
theorem dL_law_461 : decode cL_law 461 = .ok (.if_icmp .eq 900, 3) := by decide +kernel
theorem dL_law_464 : decode cL_law 464 = .ok (.iconst 0, 1) := by decide +kernel
theorem dL_law_465 : decode cL_law 465 = .ok (.ireturn, 1) := by decide +kernel
theorem dL_law_466 : decode cL_law 466 = .ok (.aload_n 1, 1) := by decide +kernel
theorem dL_law_467 : decode cL_law 467 = .ok (.aload_n 0, 1) := by decide +kernel
theorem dL_law_468 : decode cL_law 468 = .ok (.iload 4, 2) := by decide +kernel
theorem dL_law_470 : decode cL_law 470 = .ok (.iconst 1, 1) := by decide +kernel
theorem dL_law_471 : decode cL_law 471 = .ok (.iadd, 1) := by decide +kernel
theorem dL_law_472 : decode cL_law 472 = .ok (.iaload, 1) := by decide +kernel
theorem dL_law_473 : decode cL_law 473 = .ok (.aload_n 0, 1) := by decide +kernel
theorem dL_law_474 : decode cL_law 474 = .ok (.iload 4, 2) := by decide +kernel
theorem dL_law_476 : decode cL_law 476 = .ok (.iconst 2, 1) := by decide +kernel
theorem dL_law_477 : decode cL_law 477 = .ok (.iadd, 1) := by decide +kernel
theorem dL_law_478 : decode cL_law 478 = .ok (.iaload, 1) := by decide +kernel
theorem dL_law_479 : decode cL_law 479 = .ok (.aload_n 0, 1) := by decide +kernel
theorem dL_law_480 : decode cL_law 480 = .ok (.iload 4, 2) := by decide +kernel
theorem dL_law_482 : decode cL_law 482 = .ok (.iconst 3, 1) := by decide +kernel
theorem dL_law_483 : decode cL_law 483 = .ok (.iadd, 1) := by decide +kernel
theorem dL_law_484 : decode cL_law 484 = .ok (.iaload, 1) := by decide +kernel
theorem dL_law_485 : decode cL_law 485 = .ok (.invokevirtual 64, 3) := by decide +kernel
theorem dL_law_488 : decode cL_law 488 = .ok (.aload_n 2, 1) := by decide +kernel
theorem dL_law_489 : decode cL_law 489 = .ok (.aload_n 0, 1) := by decide +kernel
theorem dL_law_490 : decode cL_law 490 = .ok (.iload 4, 2) := by decide +kernel
theorem dL_law_492 : decode cL_law 492 = .ok (.iconst 1, 1) := by decide +kernel
theorem dL_law_493 : decode cL_law 493 = .ok (.iadd, 1) := by decide +kernel
theorem dL_law_494 : decode cL_law 494 = .ok (.iaload, 1) := by decide +kernel
theorem dL_law_495 : decode cL_law 495 = .ok (.aload_n 0, 1) := by decide +kernel
theorem dL_law_496 : decode cL_law 496 = .ok (.iload 4, 2) := by decide +kernel
theorem dL_law_498 : decode cL_law 498 = .ok (.iconst 2, 1) := by decide +kernel
theorem dL_law_499 : decode cL_law 499 = .ok (.iadd, 1) := by decide +kernel
theorem dL_law_500 : decode cL_law 500 = .ok (.iaload, 1) := by decide +kernel
theorem dL_law_501 : decode cL_law 501 = .ok (.aload_n 0, 1) := by decide +kernel
theorem dL_law_502 : decode cL_law 502 = .ok (.iload 4, 2) := by decide +kernel
theorem dL_law_504 : decode cL_law 504 = .ok (.iconst 3, 1) := by decide +kernel
theorem dL_law_505 : decode cL_law 505 = .ok (.iadd, 1) := by decide +kernel
theorem dL_law_506 : decode cL_law 506 = .ok (.iaload, 1) := by decide +kernel
theorem dL_law_507 : decode cL_law 507 = .ok (.invokevirtual 68, 3) := by decide +kernel
theorem dL_law_510 : decode cL_law 510 = .ok (.if_icmp .eq 851, 3) := by decide +kernel
theorem dL_law_513 : decode cL_law 513 = .ok (.iconst 0, 1) := by decide +kernel
theorem dL_law_514 : decode cL_law 514 = .ok (.ireturn, 1) := by decide +kernel
theorem dL_law_515 : decode cL_law 515 = .ok (.aload_n 1, 1) := by decide +kernel
theorem dL_law_516 : decode cL_law 516 = .ok (.aload_n 0, 1) := by decide +kernel
theorem dL_law_517 : decode cL_law 517 = .ok (.iload 4, 2) := by decide +kernel
theorem dL_law_519 : decode cL_law 519 = .ok (.iconst 1, 1) := by decide +kernel
theorem dL_law_520 : decode cL_law 520 = .ok (.iadd, 1) := by decide +kernel
theorem dL_law_521 : decode cL_law 521 = .ok (.iaload, 1) := by decide +kernel
theorem dL_law_522 : decode cL_law 522 = .ok (.aload_n 0, 1) := by decide +kernel
theorem dL_law_523 : decode cL_law 523 = .ok (.iload 4, 2) := by decide +kernel
theorem dL_law_525 : decode cL_law 525 = .ok (.iconst 2, 1) := by decide +kernel
theorem dL_law_526 : decode cL_law 526 = .ok (.iadd, 1) := by decide +kernel
theorem dL_law_527 : decode cL_law 527 = .ok (.iaload, 1) := by decide +kernel
theorem dL_law_528 : decode cL_law 528 = .ok (.invokevirtual 69, 3) := by decide +kernel
theorem dL_law_531 : decode cL_law 531 = .ok (.aload_n 2, 1) := by decide +kernel
theorem dL_law_532 : decode cL_law 532 = .ok (.aload_n 0, 1) := by decide +kernel
theorem dL_law_533 : decode cL_law 533 = .ok (.iload 4, 2) := by decide +kernel
theorem dL_law_535 : decode cL_law 535 = .ok (.iconst 1, 1) := by decide +kernel
theorem dL_law_536 : decode cL_law 536 = .ok (.iadd, 1) := by decide +kernel
theorem dL_law_537 : decode cL_law 537 = .ok (.iaload, 1) := by decide +kernel
theorem dL_law_538 : decode cL_law 538 = .ok (.aload_n 0, 1) := by decide +kernel
theorem dL_law_539 : decode cL_law 539 = .ok (.iload 4, 2) := by decide +kernel
theorem dL_law_541 : decode cL_law 541 = .ok (.iconst 2, 1) := by decide +kernel
theorem dL_law_542 : decode cL_law 542 = .ok (.iadd, 1) := by decide +kernel
theorem dL_law_543 : decode cL_law 543 = .ok (.iaload, 1) := by decide +kernel
theorem dL_law_544 : decode cL_law 544 = .ok (.invokevirtual 72, 3) := by decide +kernel
theorem dL_law_547 : decode cL_law 547 = .ok (.if_icmp .eq 814, 3) := by decide +kernel
theorem dL_law_550 : decode cL_law 550 = .ok (.iconst 0, 1) := by decide +kernel
theorem dL_law_551 : decode cL_law 551 = .ok (.ireturn, 1) := by decide +kernel
theorem dL_law_552 : decode cL_law 552 = .ok (.aload_n 1, 1) := by decide +kernel
theorem dL_law_553 : decode cL_law 553 = .ok (.aload_n 0, 1) := by decide +kernel
theorem dL_law_554 : decode cL_law 554 = .ok (.iload 4, 2) := by decide +kernel
theorem dL_law_556 : decode cL_law 556 = .ok (.iconst 1, 1) := by decide +kernel
theorem dL_law_557 : decode cL_law 557 = .ok (.iadd, 1) := by decide +kernel
theorem dL_law_558 : decode cL_law 558 = .ok (.iaload, 1) := by decide +kernel
theorem dL_law_559 : decode cL_law 559 = .ok (.invokevirtual 73, 3) := by decide +kernel
theorem dL_law_562 : decode cL_law 562 = .ok (.aload_n 2, 1) := by decide +kernel
theorem dL_law_563 : decode cL_law 563 = .ok (.aload_n 0, 1) := by decide +kernel
theorem dL_law_564 : decode cL_law 564 = .ok (.iload 4, 2) := by decide +kernel
theorem dL_law_566 : decode cL_law 566 = .ok (.iconst 1, 1) := by decide +kernel
theorem dL_law_567 : decode cL_law 567 = .ok (.iadd, 1) := by decide +kernel
theorem dL_law_568 : decode cL_law 568 = .ok (.iaload, 1) := by decide +kernel
theorem dL_law_569 : decode cL_law 569 = .ok (.invokevirtual 76, 3) := by decide +kernel
theorem dL_law_572 : decode cL_law 572 = .ok (.if_icmp .eq 789, 3) := by decide +kernel
theorem dL_law_575 : decode cL_law 575 = .ok (.iconst 0, 1) := by decide +kernel
theorem dL_law_576 : decode cL_law 576 = .ok (.ireturn, 1) := by decide +kernel
theorem dL_law_577 : decode cL_law 577 = .ok (.aload_n 1, 1) := by decide +kernel
theorem dL_law_578 : decode cL_law 578 = .ok (.aload_n 0, 1) := by decide +kernel
theorem dL_law_579 : decode cL_law 579 = .ok (.iload 4, 2) := by decide +kernel
theorem dL_law_581 : decode cL_law 581 = .ok (.iconst 1, 1) := by decide +kernel
theorem dL_law_582 : decode cL_law 582 = .ok (.iadd, 1) := by decide +kernel
theorem dL_law_583 : decode cL_law 583 = .ok (.iaload, 1) := by decide +kernel
theorem dL_law_584 : decode cL_law 584 = .ok (.invokevirtual 77, 3) := by decide +kernel
theorem dL_law_587 : decode cL_law 587 = .ok (.aload_n 2, 1) := by decide +kernel
theorem dL_law_588 : decode cL_law 588 = .ok (.aload_n 0, 1) := by decide +kernel
theorem dL_law_589 : decode cL_law 589 = .ok (.iload 4, 2) := by decide +kernel
theorem dL_law_591 : decode cL_law 591 = .ok (.iconst 1, 1) := by decide +kernel
theorem dL_law_592 : decode cL_law 592 = .ok (.iadd, 1) := by decide +kernel
theorem dL_law_593 : decode cL_law 593 = .ok (.iaload, 1) := by decide +kernel
theorem dL_law_594 : decode cL_law 594 = .ok (.invokevirtual 80, 3) := by decide +kernel
theorem dL_law_597 : decode cL_law 597 = .ok (.if_icmp .eq 764, 3) := by decide +kernel
theorem dL_law_600 : decode cL_law 600 = .ok (.iconst 0, 1) := by decide +kernel
theorem dL_law_601 : decode cL_law 601 = .ok (.ireturn, 1) := by decide +kernel
theorem dL_law_602 : decode cL_law 602 = .ok (.aload_n 1, 1) := by decide +kernel
theorem dL_law_603 : decode cL_law 603 = .ok (.aload_n 0, 1) := by decide +kernel
theorem dL_law_604 : decode cL_law 604 = .ok (.iload 4, 2) := by decide +kernel
theorem dL_law_606 : decode cL_law 606 = .ok (.iconst 1, 1) := by decide +kernel
theorem dL_law_607 : decode cL_law 607 = .ok (.iadd, 1) := by decide +kernel
theorem dL_law_608 : decode cL_law 608 = .ok (.iaload, 1) := by decide +kernel
theorem dL_law_609 : decode cL_law 609 = .ok (.invokevirtual 81, 3) := by decide +kernel
theorem dL_law_612 : decode cL_law 612 = .ok (.aload_n 2, 1) := by decide +kernel
theorem dL_law_613 : decode cL_law 613 = .ok (.aload_n 0, 1) := by decide +kernel
theorem dL_law_614 : decode cL_law 614 = .ok (.iload 4, 2) := by decide +kernel
theorem dL_law_616 : decode cL_law 616 = .ok (.iconst 1, 1) := by decide +kernel
theorem dL_law_617 : decode cL_law 617 = .ok (.iadd, 1) := by decide +kernel
theorem dL_law_618 : decode cL_law 618 = .ok (.iaload, 1) := by decide +kernel
theorem dL_law_619 : decode cL_law 619 = .ok (.invokevirtual 84, 3) := by decide +kernel
theorem dL_law_622 : decode cL_law 622 = .ok (.if_icmp .eq 739, 3) := by decide +kernel
theorem dL_law_625 : decode cL_law 625 = .ok (.iconst 0, 1) := by decide +kernel
theorem dL_law_626 : decode cL_law 626 = .ok (.ireturn, 1) := by decide +kernel
theorem dL_law_627 : decode cL_law 627 = .ok (.aload_n 1, 1) := by decide +kernel
theorem dL_law_628 : decode cL_law 628 = .ok (.aload_n 0, 1) := by decide +kernel
theorem dL_law_629 : decode cL_law 629 = .ok (.iload 4, 2) := by decide +kernel
theorem dL_law_631 : decode cL_law 631 = .ok (.iconst 1, 1) := by decide +kernel
theorem dL_law_632 : decode cL_law 632 = .ok (.iadd, 1) := by decide +kernel
theorem dL_law_633 : decode cL_law 633 = .ok (.iaload, 1) := by decide +kernel
theorem dL_law_634 : decode cL_law 634 = .ok (.aload_n 0, 1) := by decide +kernel
theorem dL_law_635 : decode cL_law 635 = .ok (.iload 4, 2) := by decide +kernel
theorem dL_law_637 : decode cL_law 637 = .ok (.iconst 2, 1) := by decide +kernel
theorem dL_law_638 : decode cL_law 638 = .ok (.iadd, 1) := by decide +kernel
theorem dL_law_639 : decode cL_law 639 = .ok (.iaload, 1) := by decide +kernel
theorem dL_law_640 : decode cL_law 640 = .ok (.invokevirtual 85, 3) := by decide +kernel
theorem dL_law_643 : decode cL_law 643 = .ok (.aload_n 2, 1) := by decide +kernel
theorem dL_law_644 : decode cL_law 644 = .ok (.aload_n 0, 1) := by decide +kernel
theorem dL_law_645 : decode cL_law 645 = .ok (.iload 4, 2) := by decide +kernel
theorem dL_law_647 : decode cL_law 647 = .ok (.iconst 1, 1) := by decide +kernel
theorem dL_law_648 : decode cL_law 648 = .ok (.iadd, 1) := by decide +kernel
theorem dL_law_649 : decode cL_law 649 = .ok (.iaload, 1) := by decide +kernel
theorem dL_law_650 : decode cL_law 650 = .ok (.aload_n 0, 1) := by decide +kernel
theorem dL_law_651 : decode cL_law 651 = .ok (.iload 4, 2) := by decide +kernel
theorem dL_law_653 : decode cL_law 653 = .ok (.iconst 2, 1) := by decide +kernel
theorem dL_law_654 : decode cL_law 654 = .ok (.iadd, 1) := by decide +kernel
theorem dL_law_655 : decode cL_law 655 = .ok (.iaload, 1) := by decide +kernel
theorem dL_law_656 : decode cL_law 656 = .ok (.invokevirtual 88, 3) := by decide +kernel
theorem dL_law_659 : decode cL_law 659 = .ok (.if_icmp .eq 702, 3) := by decide +kernel
theorem dL_law_662 : decode cL_law 662 = .ok (.iconst 0, 1) := by decide +kernel
theorem dL_law_663 : decode cL_law 663 = .ok (.ireturn, 1) := by decide +kernel
theorem dL_law_664 : decode cL_law 664 = .ok (.aload_n 1, 1) := by decide +kernel
theorem dL_law_665 : decode cL_law 665 = .ok (.aload_n 0, 1) := by decide +kernel
theorem dL_law_666 : decode cL_law 666 = .ok (.iload 4, 2) := by decide +kernel
theorem dL_law_668 : decode cL_law 668 = .ok (.iconst 1, 1) := by decide +kernel
theorem dL_law_669 : decode cL_law 669 = .ok (.iadd, 1) := by decide +kernel
theorem dL_law_670 : decode cL_law 670 = .ok (.iaload, 1) := by decide +kernel
theorem dL_law_671 : decode cL_law 671 = .ok (.aload_n 0, 1) := by decide +kernel
theorem dL_law_672 : decode cL_law 672 = .ok (.iload 4, 2) := by decide +kernel
theorem dL_law_674 : decode cL_law 674 = .ok (.iconst 2, 1) := by decide +kernel
theorem dL_law_675 : decode cL_law 675 = .ok (.iadd, 1) := by decide +kernel
theorem dL_law_676 : decode cL_law 676 = .ok (.iaload, 1) := by decide +kernel
theorem dL_law_677 : decode cL_law 677 = .ok (.aload_n 0, 1) := by decide +kernel
theorem dL_law_678 : decode cL_law 678 = .ok (.iload 4, 2) := by decide +kernel
theorem dL_law_680 : decode cL_law 680 = .ok (.iconst 3, 1) := by decide +kernel
theorem dL_law_681 : decode cL_law 681 = .ok (.iadd, 1) := by decide +kernel
theorem dL_law_682 : decode cL_law 682 = .ok (.iaload, 1) := by decide +kernel
theorem dL_law_683 : decode cL_law 683 = .ok (.invokevirtual 89, 3) := by decide +kernel
theorem dL_law_686 : decode cL_law 686 = .ok (.aload_n 2, 1) := by decide +kernel
theorem dL_law_687 : decode cL_law 687 = .ok (.aload_n 0, 1) := by decide +kernel
theorem dL_law_688 : decode cL_law 688 = .ok (.iload 4, 2) := by decide +kernel
theorem dL_law_690 : decode cL_law 690 = .ok (.iconst 1, 1) := by decide +kernel
theorem dL_law_691 : decode cL_law 691 = .ok (.iadd, 1) := by decide +kernel
theorem dL_law_692 : decode cL_law 692 = .ok (.iaload, 1) := by decide +kernel
theorem dL_law_693 : decode cL_law 693 = .ok (.aload_n 0, 1) := by decide +kernel
theorem dL_law_694 : decode cL_law 694 = .ok (.iload 4, 2) := by decide +kernel
theorem dL_law_696 : decode cL_law 696 = .ok (.iconst 2, 1) := by decide +kernel
theorem dL_law_697 : decode cL_law 697 = .ok (.iadd, 1) := by decide +kernel
theorem dL_law_698 : decode cL_law 698 = .ok (.iaload, 1) := by decide +kernel
theorem dL_law_699 : decode cL_law 699 = .ok (.aload_n 0, 1) := by decide +kernel
theorem dL_law_700 : decode cL_law 700 = .ok (.iload 4, 2) := by decide +kernel
theorem dL_law_702 : decode cL_law 702 = .ok (.iconst 3, 1) := by decide +kernel
theorem dL_law_703 : decode cL_law 703 = .ok (.iadd, 1) := by decide +kernel
theorem dL_law_704 : decode cL_law 704 = .ok (.iaload, 1) := by decide +kernel
theorem dL_law_705 : decode cL_law 705 = .ok (.invokevirtual 92, 3) := by decide +kernel
theorem dL_law_708 : decode cL_law 708 = .ok (.if_icmp .eq 653, 3) := by decide +kernel
theorem dL_law_711 : decode cL_law 711 = .ok (.iconst 0, 1) := by decide +kernel
theorem dL_law_712 : decode cL_law 712 = .ok (.ireturn, 1) := by decide +kernel
theorem dL_law_713 : decode cL_law 713 = .ok (.aload_n 1, 1) := by decide +kernel
theorem dL_law_714 : decode cL_law 714 = .ok (.aload_n 0, 1) := by decide +kernel
theorem dL_law_715 : decode cL_law 715 = .ok (.iload 4, 2) := by decide +kernel
theorem dL_law_717 : decode cL_law 717 = .ok (.iconst 1, 1) := by decide +kernel
theorem dL_law_718 : decode cL_law 718 = .ok (.iadd, 1) := by decide +kernel
theorem dL_law_719 : decode cL_law 719 = .ok (.iaload, 1) := by decide +kernel
theorem dL_law_720 : decode cL_law 720 = .ok (.aload_n 0, 1) := by decide +kernel
theorem dL_law_721 : decode cL_law 721 = .ok (.iload 4, 2) := by decide +kernel
theorem dL_law_723 : decode cL_law 723 = .ok (.iconst 2, 1) := by decide +kernel
theorem dL_law_724 : decode cL_law 724 = .ok (.iadd, 1) := by decide +kernel
theorem dL_law_725 : decode cL_law 725 = .ok (.iaload, 1) := by decide +kernel
theorem dL_law_726 : decode cL_law 726 = .ok (.aload_n 0, 1) := by decide +kernel
theorem dL_law_727 : decode cL_law 727 = .ok (.iload 4, 2) := by decide +kernel
theorem dL_law_729 : decode cL_law 729 = .ok (.iconst 3, 1) := by decide +kernel
theorem dL_law_730 : decode cL_law 730 = .ok (.iadd, 1) := by decide +kernel
theorem dL_law_731 : decode cL_law 731 = .ok (.iaload, 1) := by decide +kernel
theorem dL_law_732 : decode cL_law 732 = .ok (.invokevirtual 93, 3) := by decide +kernel
theorem dL_law_735 : decode cL_law 735 = .ok (.aload_n 2, 1) := by decide +kernel
theorem dL_law_736 : decode cL_law 736 = .ok (.aload_n 0, 1) := by decide +kernel
theorem dL_law_737 : decode cL_law 737 = .ok (.iload 4, 2) := by decide +kernel
theorem dL_law_739 : decode cL_law 739 = .ok (.iconst 1, 1) := by decide +kernel
theorem dL_law_740 : decode cL_law 740 = .ok (.iadd, 1) := by decide +kernel
theorem dL_law_741 : decode cL_law 741 = .ok (.iaload, 1) := by decide +kernel
theorem dL_law_742 : decode cL_law 742 = .ok (.aload_n 0, 1) := by decide +kernel
theorem dL_law_743 : decode cL_law 743 = .ok (.iload 4, 2) := by decide +kernel
theorem dL_law_745 : decode cL_law 745 = .ok (.iconst 2, 1) := by decide +kernel
theorem dL_law_746 : decode cL_law 746 = .ok (.iadd, 1) := by decide +kernel
theorem dL_law_747 : decode cL_law 747 = .ok (.iaload, 1) := by decide +kernel
theorem dL_law_748 : decode cL_law 748 = .ok (.aload_n 0, 1) := by decide +kernel
theorem dL_law_749 : decode cL_law 749 = .ok (.iload 4, 2) := by decide +kernel
theorem dL_law_751 : decode cL_law 751 = .ok (.iconst 3, 1) := by decide +kernel
theorem dL_law_752 : decode cL_law 752 = .ok (.iadd, 1) := by decide +kernel
theorem dL_law_753 : decode cL_law 753 = .ok (.iaload, 1) := by decide +kernel
theorem dL_law_754 : decode cL_law 754 = .ok (.invokevirtual 96, 3) := by decide +kernel
theorem dL_law_757 : decode cL_law 757 = .ok (.if_icmp .eq 604, 3) := by decide +kernel
theorem dL_law_760 : decode cL_law 760 = .ok (.iconst 0, 1) := by decide +kernel
theorem dL_law_761 : decode cL_law 761 = .ok (.ireturn, 1) := by decide +kernel
theorem dL_law_762 : decode cL_law 762 = .ok (.aload_n 1, 1) := by decide +kernel
theorem dL_law_763 : decode cL_law 763 = .ok (.aload_n 0, 1) := by decide +kernel
theorem dL_law_764 : decode cL_law 764 = .ok (.iload 4, 2) := by decide +kernel
theorem dL_law_766 : decode cL_law 766 = .ok (.iconst 1, 1) := by decide +kernel
theorem dL_law_767 : decode cL_law 767 = .ok (.iadd, 1) := by decide +kernel
theorem dL_law_768 : decode cL_law 768 = .ok (.iaload, 1) := by decide +kernel
theorem dL_law_769 : decode cL_law 769 = .ok (.aload_n 0, 1) := by decide +kernel
theorem dL_law_770 : decode cL_law 770 = .ok (.iload 4, 2) := by decide +kernel
theorem dL_law_772 : decode cL_law 772 = .ok (.iconst 2, 1) := by decide +kernel
theorem dL_law_773 : decode cL_law 773 = .ok (.iadd, 1) := by decide +kernel
theorem dL_law_774 : decode cL_law 774 = .ok (.iaload, 1) := by decide +kernel
theorem dL_law_775 : decode cL_law 775 = .ok (.invokevirtual 97, 3) := by decide +kernel
theorem dL_law_778 : decode cL_law 778 = .ok (.aload_n 2, 1) := by decide +kernel
theorem dL_law_779 : decode cL_law 779 = .ok (.aload_n 0, 1) := by decide +kernel
theorem dL_law_780 : decode cL_law 780 = .ok (.iload 4, 2) := by decide +kernel
theorem dL_law_782 : decode cL_law 782 = .ok (.iconst 1, 1) := by decide +kernel
theorem dL_law_783 : decode cL_law 783 = .ok (.iadd, 1) := by decide +kernel
theorem dL_law_784 : decode cL_law 784 = .ok (.iaload, 1) := by decide +kernel
theorem dL_law_785 : decode cL_law 785 = .ok (.aload_n 0, 1) := by decide +kernel
theorem dL_law_786 : decode cL_law 786 = .ok (.iload 4, 2) := by decide +kernel
theorem dL_law_788 : decode cL_law 788 = .ok (.iconst 2, 1) := by decide +kernel
theorem dL_law_789 : decode cL_law 789 = .ok (.iadd, 1) := by decide +kernel
theorem dL_law_790 : decode cL_law 790 = .ok (.iaload, 1) := by decide +kernel
theorem dL_law_791 : decode cL_law 791 = .ok (.invokevirtual 100, 3) := by decide +kernel
theorem dL_law_794 : decode cL_law 794 = .ok (.lcmp, 1) := by decide +kernel
theorem dL_law_795 : decode cL_law 795 = .ok (.ifCond .eq 566, 3) := by decide +kernel
theorem dL_law_798 : decode cL_law 798 = .ok (.iconst 0, 1) := by decide +kernel
theorem dL_law_799 : decode cL_law 799 = .ok (.ireturn, 1) := by decide +kernel
theorem dL_law_800 : decode cL_law 800 = .ok (.aload_n 1, 1) := by decide +kernel
theorem dL_law_801 : decode cL_law 801 = .ok (.aload_n 0, 1) := by decide +kernel
theorem dL_law_802 : decode cL_law 802 = .ok (.iload 4, 2) := by decide +kernel
theorem dL_law_804 : decode cL_law 804 = .ok (.iconst 1, 1) := by decide +kernel
theorem dL_law_805 : decode cL_law 805 = .ok (.iadd, 1) := by decide +kernel
theorem dL_law_806 : decode cL_law 806 = .ok (.iaload, 1) := by decide +kernel
theorem dL_law_807 : decode cL_law 807 = .ok (.aload_n 0, 1) := by decide +kernel
theorem dL_law_808 : decode cL_law 808 = .ok (.iload 4, 2) := by decide +kernel
theorem dL_law_810 : decode cL_law 810 = .ok (.iconst 2, 1) := by decide +kernel
theorem dL_law_811 : decode cL_law 811 = .ok (.iadd, 1) := by decide +kernel
theorem dL_law_812 : decode cL_law 812 = .ok (.iaload, 1) := by decide +kernel
theorem dL_law_813 : decode cL_law 813 = .ok (.invokevirtual 101, 3) := by decide +kernel
theorem dL_law_816 : decode cL_law 816 = .ok (.aload_n 2, 1) := by decide +kernel
theorem dL_law_817 : decode cL_law 817 = .ok (.aload_n 0, 1) := by decide +kernel
theorem dL_law_818 : decode cL_law 818 = .ok (.iload 4, 2) := by decide +kernel
theorem dL_law_820 : decode cL_law 820 = .ok (.iconst 1, 1) := by decide +kernel
theorem dL_law_821 : decode cL_law 821 = .ok (.iadd, 1) := by decide +kernel
theorem dL_law_822 : decode cL_law 822 = .ok (.iaload, 1) := by decide +kernel
theorem dL_law_823 : decode cL_law 823 = .ok (.aload_n 0, 1) := by decide +kernel
theorem dL_law_824 : decode cL_law 824 = .ok (.iload 4, 2) := by decide +kernel
theorem dL_law_826 : decode cL_law 826 = .ok (.iconst 2, 1) := by decide +kernel
theorem dL_law_827 : decode cL_law 827 = .ok (.iadd, 1) := by decide +kernel
theorem dL_law_828 : decode cL_law 828 = .ok (.iaload, 1) := by decide +kernel
theorem dL_law_829 : decode cL_law 829 = .ok (.invokevirtual 104, 3) := by decide +kernel
theorem dL_law_832 : decode cL_law 832 = .ok (.if_icmp .eq 529, 3) := by decide +kernel
theorem dL_law_835 : decode cL_law 835 = .ok (.iconst 0, 1) := by decide +kernel
theorem dL_law_836 : decode cL_law 836 = .ok (.ireturn, 1) := by decide +kernel
theorem dL_law_837 : decode cL_law 837 = .ok (.aload_n 1, 1) := by decide +kernel
theorem dL_law_838 : decode cL_law 838 = .ok (.aload_n 0, 1) := by decide +kernel
theorem dL_law_839 : decode cL_law 839 = .ok (.iload 4, 2) := by decide +kernel
theorem dL_law_841 : decode cL_law 841 = .ok (.iconst 1, 1) := by decide +kernel
theorem dL_law_842 : decode cL_law 842 = .ok (.iadd, 1) := by decide +kernel
theorem dL_law_843 : decode cL_law 843 = .ok (.iaload, 1) := by decide +kernel
theorem dL_law_844 : decode cL_law 844 = .ok (.aload_n 0, 1) := by decide +kernel
theorem dL_law_845 : decode cL_law 845 = .ok (.iload 4, 2) := by decide +kernel
theorem dL_law_847 : decode cL_law 847 = .ok (.iconst 2, 1) := by decide +kernel
theorem dL_law_848 : decode cL_law 848 = .ok (.iadd, 1) := by decide +kernel
theorem dL_law_849 : decode cL_law 849 = .ok (.iaload, 1) := by decide +kernel
theorem dL_law_850 : decode cL_law 850 = .ok (.invokevirtual 105, 3) := by decide +kernel
theorem dL_law_853 : decode cL_law 853 = .ok (.aload_n 2, 1) := by decide +kernel
theorem dL_law_854 : decode cL_law 854 = .ok (.aload_n 0, 1) := by decide +kernel
theorem dL_law_855 : decode cL_law 855 = .ok (.iload 4, 2) := by decide +kernel
theorem dL_law_857 : decode cL_law 857 = .ok (.iconst 1, 1) := by decide +kernel
theorem dL_law_858 : decode cL_law 858 = .ok (.iadd, 1) := by decide +kernel
theorem dL_law_859 : decode cL_law 859 = .ok (.iaload, 1) := by decide +kernel
theorem dL_law_860 : decode cL_law 860 = .ok (.aload_n 0, 1) := by decide +kernel
theorem dL_law_861 : decode cL_law 861 = .ok (.iload 4, 2) := by decide +kernel
theorem dL_law_863 : decode cL_law 863 = .ok (.iconst 2, 1) := by decide +kernel
theorem dL_law_864 : decode cL_law 864 = .ok (.iadd, 1) := by decide +kernel
theorem dL_law_865 : decode cL_law 865 = .ok (.iaload, 1) := by decide +kernel
theorem dL_law_866 : decode cL_law 866 = .ok (.invokevirtual 108, 3) := by decide +kernel
theorem dL_law_869 : decode cL_law 869 = .ok (.if_icmp .eq 492, 3) := by decide +kernel
theorem dL_law_872 : decode cL_law 872 = .ok (.iconst 0, 1) := by decide +kernel
theorem dL_law_873 : decode cL_law 873 = .ok (.ireturn, 1) := by decide +kernel
theorem dL_law_874 : decode cL_law 874 = .ok (.aload_n 1, 1) := by decide +kernel
theorem dL_law_875 : decode cL_law 875 = .ok (.aload_n 0, 1) := by decide +kernel
theorem dL_law_876 : decode cL_law 876 = .ok (.iload 4, 2) := by decide +kernel
theorem dL_law_878 : decode cL_law 878 = .ok (.iconst 1, 1) := by decide +kernel
theorem dL_law_879 : decode cL_law 879 = .ok (.iadd, 1) := by decide +kernel
theorem dL_law_880 : decode cL_law 880 = .ok (.iaload, 1) := by decide +kernel
theorem dL_law_881 : decode cL_law 881 = .ok (.invokevirtual 109, 3) := by decide +kernel
theorem dL_law_884 : decode cL_law 884 = .ok (.aload_n 2, 1) := by decide +kernel
theorem dL_law_885 : decode cL_law 885 = .ok (.aload_n 0, 1) := by decide +kernel
theorem dL_law_886 : decode cL_law 886 = .ok (.iload 4, 2) := by decide +kernel
theorem dL_law_888 : decode cL_law 888 = .ok (.iconst 1, 1) := by decide +kernel
theorem dL_law_889 : decode cL_law 889 = .ok (.iadd, 1) := by decide +kernel
theorem dL_law_890 : decode cL_law 890 = .ok (.iaload, 1) := by decide +kernel
theorem dL_law_891 : decode cL_law 891 = .ok (.invokevirtual 112, 3) := by decide +kernel
theorem dL_law_894 : decode cL_law 894 = .ok (.if_icmp .eq 467, 3) := by decide +kernel
theorem dL_law_897 : decode cL_law 897 = .ok (.iconst 0, 1) := by decide +kernel
theorem dL_law_898 : decode cL_law 898 = .ok (.ireturn, 1) := by decide +kernel
theorem dL_law_899 : decode cL_law 899 = .ok (.aload_n 1, 1) := by decide +kernel
theorem dL_law_900 : decode cL_law 900 = .ok (.aload_n 0, 1) := by decide +kernel
theorem dL_law_901 : decode cL_law 901 = .ok (.iload 4, 2) := by decide +kernel
theorem dL_law_903 : decode cL_law 903 = .ok (.iconst 1, 1) := by decide +kernel
theorem dL_law_904 : decode cL_law 904 = .ok (.iadd, 1) := by decide +kernel
theorem dL_law_905 : decode cL_law 905 = .ok (.iaload, 1) := by decide +kernel
theorem dL_law_906 : decode cL_law 906 = .ok (.invokevirtual 113, 3) := by decide +kernel
theorem dL_law_909 : decode cL_law 909 = .ok (.aload_n 2, 1) := by decide +kernel
theorem dL_law_910 : decode cL_law 910 = .ok (.aload_n 0, 1) := by decide +kernel
theorem dL_law_911 : decode cL_law 911 = .ok (.iload 4, 2) := by decide +kernel
theorem dL_law_913 : decode cL_law 913 = .ok (.iconst 1, 1) := by decide +kernel
theorem dL_law_914 : decode cL_law 914 = .ok (.iadd, 1) := by decide +kernel
theorem dL_law_915 : decode cL_law 915 = .ok (.iaload, 1) := by decide +kernel
theorem dL_law_916 : decode cL_law 916 = .ok (.invokevirtual 116, 3) := by decide +kernel
theorem dL_law_919 : decode cL_law 919 = .ok (.if_icmp .eq 442, 3) := by decide +kernel
theorem dL_law_922 : decode cL_law 922 = .ok (.iconst 0, 1) := by decide +kernel
theorem dL_law_923 : decode cL_law 923 = .ok (.ireturn, 1) := by decide +kernel
theorem dL_law_924 : decode cL_law 924 = .ok (.aload_n 1, 1) := by decide +kernel
theorem dL_law_925 : decode cL_law 925 = .ok (.aload_n 0, 1) := by decide +kernel
theorem dL_law_926 : decode cL_law 926 = .ok (.iload 4, 2) := by decide +kernel
theorem dL_law_928 : decode cL_law 928 = .ok (.iconst 1, 1) := by decide +kernel
theorem dL_law_929 : decode cL_law 929 = .ok (.iadd, 1) := by decide +kernel
theorem dL_law_930 : decode cL_law 930 = .ok (.iaload, 1) := by decide +kernel
theorem dL_law_931 : decode cL_law 931 = .ok (.aload_n 0, 1) := by decide +kernel
theorem dL_law_932 : decode cL_law 932 = .ok (.iload 4, 2) := by decide +kernel
theorem dL_law_934 : decode cL_law 934 = .ok (.iconst 2, 1) := by decide +kernel
theorem dL_law_935 : decode cL_law 935 = .ok (.iadd, 1) := by decide +kernel
theorem dL_law_936 : decode cL_law 936 = .ok (.iaload, 1) := by decide +kernel
theorem dL_law_937 : decode cL_law 937 = .ok (.aload_n 0, 1) := by decide +kernel
theorem dL_law_938 : decode cL_law 938 = .ok (.iload 4, 2) := by decide +kernel
theorem dL_law_940 : decode cL_law 940 = .ok (.iconst 3, 1) := by decide +kernel
theorem dL_law_941 : decode cL_law 941 = .ok (.iadd, 1) := by decide +kernel
theorem dL_law_942 : decode cL_law 942 = .ok (.iaload, 1) := by decide +kernel
theorem dL_law_943 : decode cL_law 943 = .ok (.invokevirtual 117, 3) := by decide +kernel
theorem dL_law_946 : decode cL_law 946 = .ok (.aload_n 2, 1) := by decide +kernel
theorem dL_law_947 : decode cL_law 947 = .ok (.aload_n 0, 1) := by decide +kernel
theorem dL_law_948 : decode cL_law 948 = .ok (.iload 4, 2) := by decide +kernel
theorem dL_law_950 : decode cL_law 950 = .ok (.iconst 1, 1) := by decide +kernel
theorem dL_law_951 : decode cL_law 951 = .ok (.iadd, 1) := by decide +kernel
theorem dL_law_952 : decode cL_law 952 = .ok (.iaload, 1) := by decide +kernel
theorem dL_law_953 : decode cL_law 953 = .ok (.aload_n 0, 1) := by decide +kernel
theorem dL_law_954 : decode cL_law 954 = .ok (.iload 4, 2) := by decide +kernel
theorem dL_law_956 : decode cL_law 956 = .ok (.iconst 2, 1) := by decide +kernel
theorem dL_law_957 : decode cL_law 957 = .ok (.iadd, 1) := by decide +kernel
theorem dL_law_958 : decode cL_law 958 = .ok (.iaload, 1) := by decide +kernel
theorem dL_law_959 : decode cL_law 959 = .ok (.aload_n 0, 1) := by decide +kernel
theorem dL_law_960 : decode cL_law 960 = .ok (.iload 4, 2) := by decide +kernel
theorem dL_law_962 : decode cL_law 962 = .ok (.iconst 3, 1) := by decide +kernel
theorem dL_law_963 : decode cL_law 963 = .ok (.iadd, 1) := by decide +kernel
theorem dL_law_964 : decode cL_law 964 = .ok (.iaload, 1) := by decide +kernel
theorem dL_law_965 : decode cL_law 965 = .ok (.invokevirtual 120, 3) := by decide +kernel
theorem dL_law_968 : decode cL_law 968 = .ok (.if_icmp .eq 393, 3) := by decide +kernel
theorem dL_law_971 : decode cL_law 971 = .ok (.iconst 0, 1) := by decide +kernel
theorem dL_law_972 : decode cL_law 972 = .ok (.ireturn, 1) := by decide +kernel
theorem dL_law_973 : decode cL_law 973 = .ok (.aload_n 1, 1) := by decide +kernel
theorem dL_law_974 : decode cL_law 974 = .ok (.invokevirtual 121, 3) := by decide +kernel
theorem dL_law_977 : decode cL_law 977 = .ok (.aload_n 2, 1) := by decide +kernel
theorem dL_law_978 : decode cL_law 978 = .ok (.invokevirtual 124, 3) := by decide +kernel
theorem dL_law_981 : decode cL_law 981 = .ok (.if_icmp .eq 380, 3) := by decide +kernel
theorem dL_law_984 : decode cL_law 984 = .ok (.iconst 0, 1) := by decide +kernel
theorem dL_law_985 : decode cL_law 985 = .ok (.ireturn, 1) := by decide +kernel
theorem dL_law_986 : decode cL_law 986 = .ok (.aload_n 1, 1) := by decide +kernel
theorem dL_law_987 : decode cL_law 987 = .ok (.invokevirtual 125, 3) := by decide +kernel
theorem dL_law_990 : decode cL_law 990 = .ok (.aload_n 2, 1) := by decide +kernel
theorem dL_law_991 : decode cL_law 991 = .ok (.invokevirtual 128, 3) := by decide +kernel
theorem dL_law_994 : decode cL_law 994 = .ok (.if_icmp .eq 367, 3) := by decide +kernel
theorem dL_law_997 : decode cL_law 997 = .ok (.iconst 0, 1) := by decide +kernel
theorem dL_law_998 : decode cL_law 998 = .ok (.ireturn, 1) := by decide +kernel
theorem dL_law_999 : decode cL_law 999 = .ok (.aload_n 1, 1) := by decide +kernel
theorem dL_law_1000 : decode cL_law 1000 = .ok (.aload_n 0, 1) := by decide +kernel
theorem dL_law_1001 : decode cL_law 1001 = .ok (.iload 4, 2) := by decide +kernel
theorem dL_law_1003 : decode cL_law 1003 = .ok (.iconst 1, 1) := by decide +kernel
theorem dL_law_1004 : decode cL_law 1004 = .ok (.iadd, 1) := by decide +kernel
theorem dL_law_1005 : decode cL_law 1005 = .ok (.iaload, 1) := by decide +kernel
theorem dL_law_1006 : decode cL_law 1006 = .ok (.invokevirtual 129, 3) := by decide +kernel
theorem dL_law_1009 : decode cL_law 1009 = .ok (.aload_n 2, 1) := by decide +kernel
theorem dL_law_1010 : decode cL_law 1010 = .ok (.aload_n 0, 1) := by decide +kernel
theorem dL_law_1011 : decode cL_law 1011 = .ok (.iload 4, 2) := by decide +kernel
theorem dL_law_1013 : decode cL_law 1013 = .ok (.iconst 1, 1) := by decide +kernel
theorem dL_law_1014 : decode cL_law 1014 = .ok (.iadd, 1) := by decide +kernel
theorem dL_law_1015 : decode cL_law 1015 = .ok (.iaload, 1) := by decide +kernel
theorem dL_law_1016 : decode cL_law 1016 = .ok (.invokevirtual 132, 3) := by decide +kernel
theorem dL_law_1019 : decode cL_law 1019 = .ok (.if_icmp .eq 342, 3) := by decide +kernel
theorem dL_law_1022 : decode cL_law 1022 = .ok (.iconst 0, 1) := by decide +kernel
theorem dL_law_1023 : decode cL_law 1023 = .ok (.ireturn, 1) := by decide +kernel
theorem dL_law_1024 : decode cL_law 1024 = .ok (.aload_n 1, 1) := by decide +kernel
theorem dL_law_1025 : decode cL_law 1025 = .ok (.aload_n 0, 1) := by decide +kernel
theorem dL_law_1026 : decode cL_law 1026 = .ok (.iload 4, 2) := by decide +kernel
theorem dL_law_1028 : decode cL_law 1028 = .ok (.iconst 1, 1) := by decide +kernel
theorem dL_law_1029 : decode cL_law 1029 = .ok (.iadd, 1) := by decide +kernel
theorem dL_law_1030 : decode cL_law 1030 = .ok (.iaload, 1) := by decide +kernel
theorem dL_law_1031 : decode cL_law 1031 = .ok (.aload_n 0, 1) := by decide +kernel
theorem dL_law_1032 : decode cL_law 1032 = .ok (.iload 4, 2) := by decide +kernel
theorem dL_law_1034 : decode cL_law 1034 = .ok (.iconst 2, 1) := by decide +kernel
theorem dL_law_1035 : decode cL_law 1035 = .ok (.iadd, 1) := by decide +kernel
theorem dL_law_1036 : decode cL_law 1036 = .ok (.iaload, 1) := by decide +kernel
theorem dL_law_1037 : decode cL_law 1037 = .ok (.aload_n 0, 1) := by decide +kernel
theorem dL_law_1038 : decode cL_law 1038 = .ok (.iload 4, 2) := by decide +kernel
theorem dL_law_1040 : decode cL_law 1040 = .ok (.iconst 3, 1) := by decide +kernel
theorem dL_law_1041 : decode cL_law 1041 = .ok (.iadd, 1) := by decide +kernel
theorem dL_law_1042 : decode cL_law 1042 = .ok (.iaload, 1) := by decide +kernel
theorem dL_law_1043 : decode cL_law 1043 = .ok (.invokevirtual 133, 3) := by decide +kernel
theorem dL_law_1046 : decode cL_law 1046 = .ok (.aload_n 2, 1) := by decide +kernel
theorem dL_law_1047 : decode cL_law 1047 = .ok (.aload_n 0, 1) := by decide +kernel
theorem dL_law_1048 : decode cL_law 1048 = .ok (.iload 4, 2) := by decide +kernel
theorem dL_law_1050 : decode cL_law 1050 = .ok (.iconst 1, 1) := by decide +kernel
theorem dL_law_1051 : decode cL_law 1051 = .ok (.iadd, 1) := by decide +kernel
theorem dL_law_1052 : decode cL_law 1052 = .ok (.iaload, 1) := by decide +kernel
theorem dL_law_1053 : decode cL_law 1053 = .ok (.aload_n 0, 1) := by decide +kernel
theorem dL_law_1054 : decode cL_law 1054 = .ok (.iload 4, 2) := by decide +kernel
theorem dL_law_1056 : decode cL_law 1056 = .ok (.iconst 2, 1) := by decide +kernel
theorem dL_law_1057 : decode cL_law 1057 = .ok (.iadd, 1) := by decide +kernel
theorem dL_law_1058 : decode cL_law 1058 = .ok (.iaload, 1) := by decide +kernel
theorem dL_law_1059 : decode cL_law 1059 = .ok (.aload_n 0, 1) := by decide +kernel
theorem dL_law_1060 : decode cL_law 1060 = .ok (.iload 4, 2) := by decide +kernel
theorem dL_law_1062 : decode cL_law 1062 = .ok (.iconst 3, 1) := by decide +kernel
theorem dL_law_1063 : decode cL_law 1063 = .ok (.iadd, 1) := by decide +kernel
theorem dL_law_1064 : decode cL_law 1064 = .ok (.iaload, 1) := by decide +kernel
theorem dL_law_1065 : decode cL_law 1065 = .ok (.invokevirtual 136, 3) := by decide +kernel
theorem dL_law_1068 : decode cL_law 1068 = .ok (.if_icmp .eq 293, 3) := by decide +kernel
theorem dL_law_1071 : decode cL_law 1071 = .ok (.iconst 0, 1) := by decide +kernel
theorem dL_law_1072 : decode cL_law 1072 = .ok (.ireturn, 1) := by decide +kernel
theorem dL_law_1073 : decode cL_law 1073 = .ok (.aload_n 1, 1) := by decide +kernel
theorem dL_law_1074 : decode cL_law 1074 = .ok (.aload_n 0, 1) := by decide +kernel
theorem dL_law_1075 : decode cL_law 1075 = .ok (.iload 4, 2) := by decide +kernel
theorem dL_law_1077 : decode cL_law 1077 = .ok (.iconst 1, 1) := by decide +kernel
theorem dL_law_1078 : decode cL_law 1078 = .ok (.iadd, 1) := by decide +kernel
theorem dL_law_1079 : decode cL_law 1079 = .ok (.iaload, 1) := by decide +kernel
theorem dL_law_1080 : decode cL_law 1080 = .ok (.aload_n 0, 1) := by decide +kernel
theorem dL_law_1081 : decode cL_law 1081 = .ok (.iload 4, 2) := by decide +kernel
theorem dL_law_1083 : decode cL_law 1083 = .ok (.iconst 2, 1) := by decide +kernel
theorem dL_law_1084 : decode cL_law 1084 = .ok (.iadd, 1) := by decide +kernel
theorem dL_law_1085 : decode cL_law 1085 = .ok (.iaload, 1) := by decide +kernel
theorem dL_law_1086 : decode cL_law 1086 = .ok (.aload_n 0, 1) := by decide +kernel
theorem dL_law_1087 : decode cL_law 1087 = .ok (.iload 4, 2) := by decide +kernel
theorem dL_law_1089 : decode cL_law 1089 = .ok (.iconst 3, 1) := by decide +kernel
theorem dL_law_1090 : decode cL_law 1090 = .ok (.iadd, 1) := by decide +kernel
theorem dL_law_1091 : decode cL_law 1091 = .ok (.iaload, 1) := by decide +kernel
theorem dL_law_1092 : decode cL_law 1092 = .ok (.invokevirtual 137, 3) := by decide +kernel
theorem dL_law_1095 : decode cL_law 1095 = .ok (.aload_n 2, 1) := by decide +kernel
theorem dL_law_1096 : decode cL_law 1096 = .ok (.aload_n 0, 1) := by decide +kernel
theorem dL_law_1097 : decode cL_law 1097 = .ok (.iload 4, 2) := by decide +kernel
theorem dL_law_1099 : decode cL_law 1099 = .ok (.iconst 1, 1) := by decide +kernel
theorem dL_law_1100 : decode cL_law 1100 = .ok (.iadd, 1) := by decide +kernel
theorem dL_law_1101 : decode cL_law 1101 = .ok (.iaload, 1) := by decide +kernel
theorem dL_law_1102 : decode cL_law 1102 = .ok (.aload_n 0, 1) := by decide +kernel
theorem dL_law_1103 : decode cL_law 1103 = .ok (.iload 4, 2) := by decide +kernel
theorem dL_law_1105 : decode cL_law 1105 = .ok (.iconst 2, 1) := by decide +kernel
theorem dL_law_1106 : decode cL_law 1106 = .ok (.iadd, 1) := by decide +kernel
theorem dL_law_1107 : decode cL_law 1107 = .ok (.iaload, 1) := by decide +kernel
theorem dL_law_1108 : decode cL_law 1108 = .ok (.aload_n 0, 1) := by decide +kernel
theorem dL_law_1109 : decode cL_law 1109 = .ok (.iload 4, 2) := by decide +kernel
theorem dL_law_1111 : decode cL_law 1111 = .ok (.iconst 3, 1) := by decide +kernel
theorem dL_law_1112 : decode cL_law 1112 = .ok (.iadd, 1) := by decide +kernel
theorem dL_law_1113 : decode cL_law 1113 = .ok (.iaload, 1) := by decide +kernel
theorem dL_law_1114 : decode cL_law 1114 = .ok (.invokevirtual 140, 3) := by decide +kernel
theorem dL_law_1117 : decode cL_law 1117 = .ok (.if_icmp .eq 244, 3) := by decide +kernel
theorem dL_law_1120 : decode cL_law 1120 = .ok (.iconst 0, 1) := by decide +kernel
theorem dL_law_1121 : decode cL_law 1121 = .ok (.ireturn, 1) := by decide +kernel
theorem dL_law_1122 : decode cL_law 1122 = .ok (.aload_n 1, 1) := by decide +kernel
theorem dL_law_1123 : decode cL_law 1123 = .ok (.aload_n 0, 1) := by decide +kernel
theorem dL_law_1124 : decode cL_law 1124 = .ok (.iload 4, 2) := by decide +kernel
theorem dL_law_1126 : decode cL_law 1126 = .ok (.iconst 1, 1) := by decide +kernel
theorem dL_law_1127 : decode cL_law 1127 = .ok (.iadd, 1) := by decide +kernel
theorem dL_law_1128 : decode cL_law 1128 = .ok (.iaload, 1) := by decide +kernel
theorem dL_law_1129 : decode cL_law 1129 = .ok (.aload_n 0, 1) := by decide +kernel
theorem dL_law_1130 : decode cL_law 1130 = .ok (.iload 4, 2) := by decide +kernel
theorem dL_law_1132 : decode cL_law 1132 = .ok (.iconst 2, 1) := by decide +kernel
theorem dL_law_1133 : decode cL_law 1133 = .ok (.iadd, 1) := by decide +kernel
theorem dL_law_1134 : decode cL_law 1134 = .ok (.iaload, 1) := by decide +kernel
theorem dL_law_1135 : decode cL_law 1135 = .ok (.aload_n 0, 1) := by decide +kernel
theorem dL_law_1136 : decode cL_law 1136 = .ok (.iload 4, 2) := by decide +kernel
theorem dL_law_1138 : decode cL_law 1138 = .ok (.iconst 3, 1) := by decide +kernel
theorem dL_law_1139 : decode cL_law 1139 = .ok (.iadd, 1) := by decide +kernel
theorem dL_law_1140 : decode cL_law 1140 = .ok (.iaload, 1) := by decide +kernel
theorem dL_law_1141 : decode cL_law 1141 = .ok (.invokevirtual 141, 3) := by decide +kernel
theorem dL_law_1144 : decode cL_law 1144 = .ok (.aload_n 2, 1) := by decide +kernel
theorem dL_law_1145 : decode cL_law 1145 = .ok (.aload_n 0, 1) := by decide +kernel
theorem dL_law_1146 : decode cL_law 1146 = .ok (.iload 4, 2) := by decide +kernel
theorem dL_law_1148 : decode cL_law 1148 = .ok (.iconst 1, 1) := by decide +kernel
theorem dL_law_1149 : decode cL_law 1149 = .ok (.iadd, 1) := by decide +kernel
theorem dL_law_1150 : decode cL_law 1150 = .ok (.iaload, 1) := by decide +kernel
theorem dL_law_1151 : decode cL_law 1151 = .ok (.aload_n 0, 1) := by decide +kernel
theorem dL_law_1152 : decode cL_law 1152 = .ok (.iload 4, 2) := by decide +kernel
theorem dL_law_1154 : decode cL_law 1154 = .ok (.iconst 2, 1) := by decide +kernel
theorem dL_law_1155 : decode cL_law 1155 = .ok (.iadd, 1) := by decide +kernel
theorem dL_law_1156 : decode cL_law 1156 = .ok (.iaload, 1) := by decide +kernel
theorem dL_law_1157 : decode cL_law 1157 = .ok (.aload_n 0, 1) := by decide +kernel
theorem dL_law_1158 : decode cL_law 1158 = .ok (.iload 4, 2) := by decide +kernel
theorem dL_law_1160 : decode cL_law 1160 = .ok (.iconst 3, 1) := by decide +kernel
theorem dL_law_1161 : decode cL_law 1161 = .ok (.iadd, 1) := by decide +kernel
theorem dL_law_1162 : decode cL_law 1162 = .ok (.iaload, 1) := by decide +kernel
theorem dL_law_1163 : decode cL_law 1163 = .ok (.invokevirtual 144, 3) := by decide +kernel
theorem dL_law_1166 : decode cL_law 1166 = .ok (.if_icmp .eq 195, 3) := by decide +kernel
theorem dL_law_1169 : decode cL_law 1169 = .ok (.iconst 0, 1) := by decide +kernel
theorem dL_law_1170 : decode cL_law 1170 = .ok (.ireturn, 1) := by decide +kernel
theorem dL_law_1171 : decode cL_law 1171 = .ok (.aload_n 1, 1) := by decide +kernel
theorem dL_law_1172 : decode cL_law 1172 = .ok (.aload_n 0, 1) := by decide +kernel
theorem dL_law_1173 : decode cL_law 1173 = .ok (.iload 4, 2) := by decide +kernel
theorem dL_law_1175 : decode cL_law 1175 = .ok (.iconst 1, 1) := by decide +kernel
theorem dL_law_1176 : decode cL_law 1176 = .ok (.iadd, 1) := by decide +kernel
theorem dL_law_1177 : decode cL_law 1177 = .ok (.iaload, 1) := by decide +kernel
theorem dL_law_1178 : decode cL_law 1178 = .ok (.aload_n 0, 1) := by decide +kernel
theorem dL_law_1179 : decode cL_law 1179 = .ok (.iload 4, 2) := by decide +kernel
theorem dL_law_1181 : decode cL_law 1181 = .ok (.iconst 2, 1) := by decide +kernel
theorem dL_law_1182 : decode cL_law 1182 = .ok (.iadd, 1) := by decide +kernel
theorem dL_law_1183 : decode cL_law 1183 = .ok (.iaload, 1) := by decide +kernel
theorem dL_law_1184 : decode cL_law 1184 = .ok (.aload_n 3, 1) := by decide +kernel
theorem dL_law_1185 : decode cL_law 1185 = .ok (.invokestatic 145, 3) := by decide +kernel
theorem dL_law_1188 : decode cL_law 1188 = .ok (.istore 5, 2) := by decide +kernel
theorem dL_law_1190 : decode cL_law 1190 = .ok (.aload_n 2, 1) := by decide +kernel
theorem dL_law_1191 : decode cL_law 1191 = .ok (.aload_n 0, 1) := by decide +kernel
theorem dL_law_1192 : decode cL_law 1192 = .ok (.iload 4, 2) := by decide +kernel
theorem dL_law_1194 : decode cL_law 1194 = .ok (.iconst 1, 1) := by decide +kernel
theorem dL_law_1195 : decode cL_law 1195 = .ok (.iadd, 1) := by decide +kernel
theorem dL_law_1196 : decode cL_law 1196 = .ok (.iaload, 1) := by decide +kernel
theorem dL_law_1197 : decode cL_law 1197 = .ok (.aload_n 0, 1) := by decide +kernel
theorem dL_law_1198 : decode cL_law 1198 = .ok (.iload 4, 2) := by decide +kernel
theorem dL_law_1200 : decode cL_law 1200 = .ok (.iconst 2, 1) := by decide +kernel
theorem dL_law_1201 : decode cL_law 1201 = .ok (.iadd, 1) := by decide +kernel
theorem dL_law_1202 : decode cL_law 1202 = .ok (.iaload, 1) := by decide +kernel
theorem dL_law_1203 : decode cL_law 1203 = .ok (.invokevirtual 150, 3) := by decide +kernel
theorem dL_law_1206 : decode cL_law 1206 = .ok (.lstore 6, 2) := by decide +kernel
theorem dL_law_1208 : decode cL_law 1208 = .ok (.aload_n 2, 1) := by decide +kernel
theorem dL_law_1209 : decode cL_law 1209 = .ok (.invokevirtual 151, 3) := by decide +kernel
theorem dL_law_1212 : decode cL_law 1212 = .ok (.iload 5, 2) := by decide +kernel
theorem dL_law_1214 : decode cL_law 1214 = .ok (.if_icmp .eq 5, 3) := by decide +kernel
theorem dL_law_1217 : decode cL_law 1217 = .ok (.iconst 0, 1) := by decide +kernel
theorem dL_law_1218 : decode cL_law 1218 = .ok (.ireturn, 1) := by decide +kernel
theorem dL_law_1219 : decode cL_law 1219 = .ok (.iload 5, 2) := by decide +kernel
theorem dL_law_1221 : decode cL_law 1221 = .ok (.ifCond .ne 14, 3) := by decide +kernel
theorem dL_law_1224 : decode cL_law 1224 = .ok (.aload_n 3, 1) := by decide +kernel
theorem dL_law_1225 : decode cL_law 1225 = .ok (.iconst 0, 1) := by decide +kernel
theorem dL_law_1226 : decode cL_law 1226 = .ok (.laload, 1) := by decide +kernel
theorem dL_law_1227 : decode cL_law 1227 = .ok (.lload 6, 2) := by decide +kernel
theorem dL_law_1229 : decode cL_law 1229 = .ok (.lcmp, 1) := by decide +kernel
theorem dL_law_1230 : decode cL_law 1230 = .ok (.ifCond .eq 5, 3) := by decide +kernel
theorem dL_law_1233 : decode cL_law 1233 = .ok (.iconst 0, 1) := by decide +kernel
theorem dL_law_1234 : decode cL_law 1234 = .ok (.ireturn, 1) := by decide +kernel
theorem dL_law_1235 : decode cL_law 1235 = .ok (.goto 126, 3) := by decide +kernel
theorem dL_law_1238 : decode cL_law 1238 = .ok (.aload_n 1, 1) := by decide +kernel
theorem dL_law_1239 : decode cL_law 1239 = .ok (.aload_n 0, 1) := by decide +kernel
theorem dL_law_1240 : decode cL_law 1240 = .ok (.iload 4, 2) := by decide +kernel
theorem dL_law_1242 : decode cL_law 1242 = .ok (.iconst 1, 1) := by decide +kernel
theorem dL_law_1243 : decode cL_law 1243 = .ok (.iadd, 1) := by decide +kernel
theorem dL_law_1244 : decode cL_law 1244 = .ok (.iaload, 1) := by decide +kernel
theorem dL_law_1245 : decode cL_law 1245 = .ok (.aload_n 0, 1) := by decide +kernel
theorem dL_law_1246 : decode cL_law 1246 = .ok (.iload 4, 2) := by decide +kernel
theorem dL_law_1248 : decode cL_law 1248 = .ok (.iconst 2, 1) := by decide +kernel
theorem dL_law_1249 : decode cL_law 1249 = .ok (.iadd, 1) := by decide +kernel
theorem dL_law_1250 : decode cL_law 1250 = .ok (.iaload, 1) := by decide +kernel
theorem dL_law_1251 : decode cL_law 1251 = .ok (.aload_n 0, 1) := by decide +kernel
theorem dL_law_1252 : decode cL_law 1252 = .ok (.iload 4, 2) := by decide +kernel
theorem dL_law_1254 : decode cL_law 1254 = .ok (.iconst 3, 1) := by decide +kernel
theorem dL_law_1255 : decode cL_law 1255 = .ok (.iadd, 1) := by decide +kernel
theorem dL_law_1256 : decode cL_law 1256 = .ok (.iaload, 1) := by decide +kernel
theorem dL_law_1257 : decode cL_law 1257 = .ok (.aload_n 0, 1) := by decide +kernel
theorem dL_law_1258 : decode cL_law 1258 = .ok (.iload 4, 2) := by decide +kernel
theorem dL_law_1260 : decode cL_law 1260 = .ok (.iconst 4, 1) := by decide +kernel
theorem dL_law_1261 : decode cL_law 1261 = .ok (.iadd, 1) := by decide +kernel
theorem dL_law_1262 : decode cL_law 1262 = .ok (.iaload, 1) := by decide +kernel
theorem dL_law_1263 : decode cL_law 1263 = .ok (.aload_n 0, 1) := by decide +kernel
theorem dL_law_1264 : decode cL_law 1264 = .ok (.iload 4, 2) := by decide +kernel
theorem dL_law_1266 : decode cL_law 1266 = .ok (.iconst 5, 1) := by decide +kernel
theorem dL_law_1267 : decode cL_law 1267 = .ok (.iadd, 1) := by decide +kernel
theorem dL_law_1268 : decode cL_law 1268 = .ok (.iaload, 1) := by decide +kernel
theorem dL_law_1269 : decode cL_law 1269 = .ok (.invokevirtual 154, 3) := by decide +kernel
theorem dL_law_1272 : decode cL_law 1272 = .ok (.aload_n 2, 1) := by decide +kernel
theorem dL_law_1273 : decode cL_law 1273 = .ok (.aload_n 0, 1) := by decide +kernel
theorem dL_law_1274 : decode cL_law 1274 = .ok (.iload 4, 2) := by decide +kernel
theorem dL_law_1276 : decode cL_law 1276 = .ok (.iconst 1, 1) := by decide +kernel
theorem dL_law_1277 : decode cL_law 1277 = .ok (.iadd, 1) := by decide +kernel
theorem dL_law_1278 : decode cL_law 1278 = .ok (.iaload, 1) := by decide +kernel
theorem dL_law_1279 : decode cL_law 1279 = .ok (.aload_n 0, 1) := by decide +kernel
theorem dL_law_1280 : decode cL_law 1280 = .ok (.iload 4, 2) := by decide +kernel
theorem dL_law_1282 : decode cL_law 1282 = .ok (.iconst 2, 1) := by decide +kernel
theorem dL_law_1283 : decode cL_law 1283 = .ok (.iadd, 1) := by decide +kernel
theorem dL_law_1284 : decode cL_law 1284 = .ok (.iaload, 1) := by decide +kernel
theorem dL_law_1285 : decode cL_law 1285 = .ok (.aload_n 0, 1) := by decide +kernel
theorem dL_law_1286 : decode cL_law 1286 = .ok (.iload 4, 2) := by decide +kernel
theorem dL_law_1288 : decode cL_law 1288 = .ok (.iconst 3, 1) := by decide +kernel
theorem dL_law_1289 : decode cL_law 1289 = .ok (.iadd, 1) := by decide +kernel
theorem dL_law_1290 : decode cL_law 1290 = .ok (.iaload, 1) := by decide +kernel
theorem dL_law_1291 : decode cL_law 1291 = .ok (.aload_n 0, 1) := by decide +kernel
theorem dL_law_1292 : decode cL_law 1292 = .ok (.iload 4, 2) := by decide +kernel
theorem dL_law_1294 : decode cL_law 1294 = .ok (.iconst 4, 1) := by decide +kernel
theorem dL_law_1295 : decode cL_law 1295 = .ok (.iadd, 1) := by decide +kernel
theorem dL_law_1296 : decode cL_law 1296 = .ok (.iaload, 1) := by decide +kernel
theorem dL_law_1297 : decode cL_law 1297 = .ok (.aload_n 0, 1) := by decide +kernel
theorem dL_law_1298 : decode cL_law 1298 = .ok (.iload 4, 2) := by decide +kernel
theorem dL_law_1300 : decode cL_law 1300 = .ok (.iconst 5, 1) := by decide +kernel
theorem dL_law_1301 : decode cL_law 1301 = .ok (.iadd, 1) := by decide +kernel
theorem dL_law_1302 : decode cL_law 1302 = .ok (.iaload, 1) := by decide +kernel
theorem dL_law_1303 : decode cL_law 1303 = .ok (.invokevirtual 158, 3) := by decide +kernel
theorem dL_law_1306 : decode cL_law 1306 = .ok (.if_icmp .eq 55, 3) := by decide +kernel
theorem dL_law_1309 : decode cL_law 1309 = .ok (.iconst 0, 1) := by decide +kernel
theorem dL_law_1310 : decode cL_law 1310 = .ok (.ireturn, 1) := by decide +kernel
theorem dL_law_1311 : decode cL_law 1311 = .ok (.aload_n 1, 1) := by decide +kernel
theorem dL_law_1312 : decode cL_law 1312 = .ok (.aload_n 0, 1) := by decide +kernel
theorem dL_law_1313 : decode cL_law 1313 = .ok (.iload 4, 2) := by decide +kernel
theorem dL_law_1315 : decode cL_law 1315 = .ok (.iconst 1, 1) := by decide +kernel
theorem dL_law_1316 : decode cL_law 1316 = .ok (.iadd, 1) := by decide +kernel
theorem dL_law_1317 : decode cL_law 1317 = .ok (.iaload, 1) := by decide +kernel
theorem dL_law_1318 : decode cL_law 1318 = .ok (.invokevirtual 159, 3) := by decide +kernel
theorem dL_law_1321 : decode cL_law 1321 = .ok (.aload_n 2, 1) := by decide +kernel
theorem dL_law_1322 : decode cL_law 1322 = .ok (.aload_n 0, 1) := by decide +kernel
theorem dL_law_1323 : decode cL_law 1323 = .ok (.iload 4, 2) := by decide +kernel
theorem dL_law_1325 : decode cL_law 1325 = .ok (.iconst 1, 1) := by decide +kernel
theorem dL_law_1326 : decode cL_law 1326 = .ok (.iadd, 1) := by decide +kernel
theorem dL_law_1327 : decode cL_law 1327 = .ok (.iaload, 1) := by decide +kernel
theorem dL_law_1328 : decode cL_law 1328 = .ok (.invokevirtual 162, 3) := by decide +kernel
theorem dL_law_1331 : decode cL_law 1331 = .ok (.if_icmp .eq 30, 3) := by decide +kernel
theorem dL_law_1334 : decode cL_law 1334 = .ok (.iconst 0, 1) := by decide +kernel
theorem dL_law_1335 : decode cL_law 1335 = .ok (.ireturn, 1) := by decide +kernel
theorem dL_law_1336 : decode cL_law 1336 = .ok (.aload_n 1, 1) := by decide +kernel
theorem dL_law_1337 : decode cL_law 1337 = .ok (.aload_n 0, 1) := by decide +kernel
theorem dL_law_1338 : decode cL_law 1338 = .ok (.iload 4, 2) := by decide +kernel
theorem dL_law_1340 : decode cL_law 1340 = .ok (.iconst 1, 1) := by decide +kernel
theorem dL_law_1341 : decode cL_law 1341 = .ok (.iadd, 1) := by decide +kernel
theorem dL_law_1342 : decode cL_law 1342 = .ok (.iaload, 1) := by decide +kernel
theorem dL_law_1343 : decode cL_law 1343 = .ok (.invokevirtual 163, 3) := by decide +kernel
theorem dL_law_1346 : decode cL_law 1346 = .ok (.aload_n 2, 1) := by decide +kernel
theorem dL_law_1347 : decode cL_law 1347 = .ok (.aload_n 0, 1) := by decide +kernel
theorem dL_law_1348 : decode cL_law 1348 = .ok (.iload 4, 2) := by decide +kernel
theorem dL_law_1350 : decode cL_law 1350 = .ok (.iconst 1, 1) := by decide +kernel
theorem dL_law_1351 : decode cL_law 1351 = .ok (.iadd, 1) := by decide +kernel
theorem dL_law_1352 : decode cL_law 1352 = .ok (.iaload, 1) := by decide +kernel
theorem dL_law_1353 : decode cL_law 1353 = .ok (.invokevirtual 166, 3) := by decide +kernel
theorem dL_law_1356 : decode cL_law 1356 = .ok (.if_icmp .eq 5, 3) := by decide +kernel
theorem dL_law_1359 : decode cL_law 1359 = .ok (.iconst 0, 1) := by decide +kernel
theorem dL_law_1360 : decode cL_law 1360 = .ok (.ireturn, 1) := by decide +kernel
theorem dL_law_1361 : decode cL_law 1361 = .ok (.iinc 4 6, 3) := by decide +kernel
theorem dL_law_1364 : decode cL_law 1364 = .ok (.goto (-1341), 3) := by decide +kernel
theorem dL_law_1367 : decode cL_law 1367 = .ok (.iconst 1, 1) := by decide +kernel
theorem dL_law_1368 : decode cL_law 1368 = .ok (.ireturn, 1) := by decide +kernel
abbrev vwCl : List vw_C := [(RX0, TX0, 10), (RX1, TX1, 4), (RX2, TX2, 7), (RX3, TX3, 3), (RX4, TX4, 3), (RX5, TX5, 7), (RX6, TX6, 21)]
