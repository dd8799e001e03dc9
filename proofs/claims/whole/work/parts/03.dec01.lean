set_option maxRecDepth 20000 in
theorem gX5_settleBy_X5_settleAll : GoodIn wsX5_settleBy (wsV RX5 53 RX5 yX5_settleAll wsX5_settleAll) := goodIn_app (goodIn_of _ (by decide +kernel)) ggX5_settleBy_X5_settleAll
theorem dX5_settleBy_0 : decode cX5_settleBy 0 = .ok (.aload_n 0, 1) := by decide +kernel
theorem dX5_settleBy_1 : decode cX5_settleBy 1 = .ok (.iload_n 1, 1) := by decide +kernel
theorem dX5_settleBy_2 : decode cX5_settleBy 2 = .ok (.putfield 25, 3) := by decide +kernel
theorem dX5_settleBy_5 : decode cX5_settleBy 5 = .ok (.aload_n 0, 1) := by decide +kernel
theorem dX5_settleBy_6 : decode cX5_settleBy 6 = .ok (.invokevirtual 53, 3) := by decide +kernel
theorem dX5_settleBy_9 : decode cX5_settleBy 9 = .ok (.return_, 1) := by decide +kernel
set_option maxRecDepth 20000 in
theorem ggX5_settleAll_X5_settle : GoodIn wsX5_settleAll wsX5_settle := goodIn_r _ [6, 7, 8, 9, 10, 1, 11, 12, 13, 14, 15, 16, 17, 18, 19, 20, 21, 22, 23, 24, 25, 26, 27, 28, 29, 30, 5, 31, 32, 33, 34, 35, 36, 37, 38, 39, 40, 41, 42, 43, 44, 45, 46, 47, 48, 49, 50, 51, 52, 53, 54, 55, 56, 57, 58, 59, 60, 61, 62, 63, 64, 65] (by decide +kernel) (by decide +kernel)
set_option maxRecDepth 20000 in
theorem gX5_settleAll_X5_settle : GoodIn wsX5_settleAll (wsV RX5 59 RX5 yX5_settle wsX5_settle) := goodIn_app (goodIn_of _ (by decide +kernel)) ggX5_settleAll_X5_settle
theorem dX5_settleAll_0 : decode cX5_settleAll 0 = .ok (.iconst 0, 1) := by decide +kernel
theorem dX5_settleAll_1 : decode cX5_settleAll 1 = .ok (.istore_n 1, 1) := by decide +kernel
theorem dX5_settleAll_2 : decode cX5_settleAll 2 = .ok (.iload_n 1, 1) := by decide +kernel
theorem dX5_settleAll_3 : decode cX5_settleAll 3 = .ok (.aload_n 0, 1) := by decide +kernel
theorem dX5_settleAll_4 : decode cX5_settleAll 4 = .ok (.getfield 12, 3) := by decide +kernel
theorem dX5_settleAll_7 : decode cX5_settleAll 7 = .ok (.getfield 56, 3) := by decide +kernel
theorem dX5_settleAll_10 : decode cX5_settleAll 10 = .ok (.if_icmp .ge 14, 3) := by decide +kernel
theorem dX5_settleAll_13 : decode cX5_settleAll 13 = .ok (.aload_n 0, 1) := by decide +kernel
theorem dX5_settleAll_14 : decode cX5_settleAll 14 = .ok (.iload_n 1, 1) := by decide +kernel
theorem dX5_settleAll_15 : decode cX5_settleAll 15 = .ok (.invokevirtual 59, 3) := by decide +kernel
theorem dX5_settleAll_18 : decode cX5_settleAll 18 = .ok (.iinc 1 1, 3) := by decide +kernel
theorem dX5_settleAll_21 : decode cX5_settleAll 21 = .ok (.goto (-19), 3) := by decide +kernel
theorem dX5_settleAll_24 : decode cX5_settleAll 24 = .ok (.return_, 1) := by decide +kernel
set_option maxRecDepth 20000 in
theorem ggX5_settle_X1_stepAt : GoodIn wsX5_settle wsX1_stepAt := goodIn_r _ [11, 12, 13, 14, 15, 10, 16, 17, 18, 19, 20, 21, 22, 56, 57, 58, 59, 60, 61] (by decide +kernel) (by decide +kernel)
set_option maxRecDepth 20000 in
theorem gX5_settle_X1_stepAt : GoodIn wsX5_settle (wsV RX5 66 RX1 yX1_stepAt wsX1_stepAt) := goodIn_app (goodIn_of _ (by decide +kernel)) ggX5_settle_X1_stepAt
set_option maxRecDepth 20000 in
theorem ggX5_settle_X5_outOfStep : GoodIn wsX5_settle wsX5_outOfStep := goodIn_r _ [27, 5, 1, 28, 19, 20, 10, 21, 22, 29, 30, 31, 26, 32, 33, 47, 48, 49, 50, 51, 52, 53, 54, 55, 56, 57, 58, 59, 60, 61] (by decide +kernel) (by decide +kernel)
set_option maxRecDepth 20000 in
theorem gX5_settle_X5_outOfStep : GoodIn wsX5_settle (wsV RX5 70 RX5 yX5_outOfStep wsX5_outOfStep) := goodIn_app (goodIn_of _ (by decide +kernel)) ggX5_settle_X5_outOfStep
set_option maxRecDepth 20000 in
theorem ggX5_settle_X5_countStep : GoodIn wsX5_settle wsX5_countStep := goodIn_r _ [37, 3, 5, 4, 38, 39, 40, 26, 41, 28, 19, 20, 10, 21, 22, 29, 30, 31, 32, 33, 47, 48, 49, 50, 51, 52, 53, 54, 55, 56, 57, 58, 59, 60, 61] (by decide +kernel) (by decide +kernel)
set_option maxRecDepth 20000 in
theorem gX5_settle_X5_countStep : GoodIn wsX5_settle (wsV RX5 74 RX5 yX5_countStep wsX5_countStep) := goodIn_app (goodIn_of _ (by decide +kernel)) ggX5_settle_X5_countStep
set_option maxRecDepth 20000 in
theorem ggX5_settle_X5_guardsAgainst : GoodIn wsX5_settle wsX5_guardsAgainst := goodIn_r _ [45, 6, 46, 47, 48, 49, 50, 51, 52, 53, 54, 55] (by decide +kernel) (by decide +kernel)
set_option maxRecDepth 20000 in
theorem gX5_settle_X5_guardsAgainst : GoodIn wsX5_settle (wsV RX5 78 RX5 yX5_guardsAgainst wsX5_guardsAgainst) := goodIn_app (goodIn_of _ (by decide +kernel)) ggX5_settle_X5_guardsAgainst
theorem dX5_settle_0 : decode cX5_settle 0 = .ok (.aload_n 0, 1) := by decide +kernel
theorem dX5_settle_1 : decode cX5_settle 1 = .ok (.getfield 29, 3) := by decide +kernel
theorem dX5_settle_4 : decode cX5_settle 4 = .ok (.iload_n 1, 1) := by decide +kernel
theorem dX5_settle_5 : decode cX5_settle 5 = .ok (.iconst 4, 1) := by decide +kernel
theorem dX5_settle_6 : decode cX5_settle 6 = .ok (.iastore, 1) := by decide +kernel
theorem dX5_settle_7 : decode cX5_settle 7 = .ok (.aload_n 0, 1) := by decide +kernel
theorem dX5_settle_8 : decode cX5_settle 8 = .ok (.getfield 38, 3) := by decide +kernel
theorem dX5_settle_11 : decode cX5_settle 11 = .ok (.iload_n 1, 1) := by decide +kernel
theorem dX5_settle_12 : decode cX5_settle 12 = .ok (.iconst (-1), 1) := by decide +kernel
theorem dX5_settle_13 : decode cX5_settle 13 = .ok (.iastore, 1) := by decide +kernel
theorem dX5_settle_14 : decode cX5_settle 14 = .ok (.aload_n 0, 1) := by decide +kernel
theorem dX5_settle_15 : decode cX5_settle 15 = .ok (.getfield 32, 3) := by decide +kernel
theorem dX5_settle_18 : decode cX5_settle 18 = .ok (.iload_n 1, 1) := by decide +kernel
theorem dX5_settle_19 : decode cX5_settle 19 = .ok (.iconst 0, 1) := by decide +kernel
theorem dX5_settle_20 : decode cX5_settle 20 = .ok (.iastore, 1) := by decide +kernel
theorem dX5_settle_21 : decode cX5_settle 21 = .ok (.aload_n 0, 1) := by decide +kernel
theorem dX5_settle_22 : decode cX5_settle 22 = .ok (.getfield 35, 3) := by decide +kernel
theorem dX5_settle_25 : decode cX5_settle 25 = .ok (.iload_n 1, 1) := by decide +kernel
theorem dX5_settle_26 : decode cX5_settle 26 = .ok (.iconst 1, 1) := by decide +kernel
theorem dX5_settle_27 : decode cX5_settle 27 = .ok (.iastore, 1) := by decide +kernel
theorem dX5_settle_28 : decode cX5_settle 28 = .ok (.iconst 0, 1) := by decide +kernel
theorem dX5_settle_29 : decode cX5_settle 29 = .ok (.istore_n 2, 1) := by decide +kernel
theorem dX5_settle_30 : decode cX5_settle 30 = .ok (.iload_n 2, 1) := by decide +kernel
theorem dX5_settle_31 : decode cX5_settle 31 = .ok (.aload_n 0, 1) := by decide +kernel
theorem dX5_settle_32 : decode cX5_settle 32 = .ok (.getfield 12, 3) := by decide +kernel
theorem dX5_settle_35 : decode cX5_settle 35 = .ok (.getfield 63, 3) := by decide +kernel
theorem dX5_settle_38 : decode cX5_settle 38 = .ok (.iload_n 1, 1) := by decide +kernel
theorem dX5_settle_39 : decode cX5_settle 39 = .ok (.iaload, 1) := by decide +kernel
theorem dX5_settle_40 : decode cX5_settle 40 = .ok (.if_icmp .ge 89, 3) := by decide +kernel
theorem dX5_settle_43 : decode cX5_settle 43 = .ok (.aload_n 0, 1) := by decide +kernel
theorem dX5_settle_44 : decode cX5_settle 44 = .ok (.getfield 12, 3) := by decide +kernel
theorem dX5_settle_47 : decode cX5_settle 47 = .ok (.iload_n 1, 1) := by decide +kernel
theorem dX5_settle_48 : decode cX5_settle 48 = .ok (.iload_n 2, 1) := by decide +kernel
theorem dX5_settle_49 : decode cX5_settle 49 = .ok (.invokevirtual 66, 3) := by decide +kernel
theorem dX5_settle_52 : decode cX5_settle 52 = .ok (.istore_n 3, 1) := by decide +kernel
theorem dX5_settle_53 : decode cX5_settle 53 = .ok (.aload_n 0, 1) := by decide +kernel
theorem dX5_settle_54 : decode cX5_settle 54 = .ok (.iload_n 3, 1) := by decide +kernel
theorem dX5_settle_55 : decode cX5_settle 55 = .ok (.invokevirtual 70, 3) := by decide +kernel
theorem dX5_settle_58 : decode cX5_settle 58 = .ok (.istore 4, 2) := by decide +kernel
theorem dX5_settle_60 : decode cX5_settle 60 = .ok (.aload_n 0, 1) := by decide +kernel
theorem dX5_settle_61 : decode cX5_settle 61 = .ok (.iload_n 1, 1) := by decide +kernel
theorem dX5_settle_62 : decode cX5_settle 62 = .ok (.iload_n 3, 1) := by decide +kernel
theorem dX5_settle_63 : decode cX5_settle 63 = .ok (.invokevirtual 74, 3) := by decide +kernel
theorem dX5_settle_66 : decode cX5_settle 66 = .ok (.iload 4, 2) := by decide +kernel
theorem dX5_settle_68 : decode cX5_settle 68 = .ok (.iconst 4, 1) := by decide +kernel
theorem dX5_settle_69 : decode cX5_settle 69 = .ok (.if_icmp .ne 6, 3) := by decide +kernel
theorem dX5_settle_72 : decode cX5_settle 72 = .ok (.goto 51, 3) := by decide +kernel
theorem dX5_settle_75 : decode cX5_settle 75 = .ok (.aload_n 0, 1) := by decide +kernel
theorem dX5_settle_76 : decode cX5_settle 76 = .ok (.iload_n 1, 1) := by decide +kernel
theorem dX5_settle_77 : decode cX5_settle 77 = .ok (.iload 4, 2) := by decide +kernel
theorem dX5_settle_79 : decode cX5_settle 79 = .ok (.invokevirtual 78, 3) := by decide +kernel
theorem dX5_settle_82 : decode cX5_settle 82 = .ok (.ifCond .ne 30, 3) := by decide +kernel
theorem dX5_settle_85 : decode cX5_settle 85 = .ok (.aload_n 0, 1) := by decide +kernel
theorem dX5_settle_86 : decode cX5_settle 86 = .ok (.getfield 29, 3) := by decide +kernel
theorem dX5_settle_89 : decode cX5_settle 89 = .ok (.iload_n 1, 1) := by decide +kernel
theorem dX5_settle_90 : decode cX5_settle 90 = .ok (.iload 4, 2) := by decide +kernel
theorem dX5_settle_92 : decode cX5_settle 92 = .ok (.iastore, 1) := by decide +kernel
theorem dX5_settle_93 : decode cX5_settle 93 = .ok (.aload_n 0, 1) := by decide +kernel
theorem dX5_settle_94 : decode cX5_settle 94 = .ok (.getfield 38, 3) := by decide +kernel
theorem dX5_settle_97 : decode cX5_settle 97 = .ok (.iload_n 1, 1) := by decide +kernel
theorem dX5_settle_98 : decode cX5_settle 98 = .ok (.iload_n 3, 1) := by decide +kernel
theorem dX5_settle_99 : decode cX5_settle 99 = .ok (.iconst 4, 1) := by decide +kernel
theorem dX5_settle_100 : decode cX5_settle 100 = .ok (.if_icmp .ge 7, 3) := by decide +kernel
theorem dX5_settle_103 : decode cX5_settle 103 = .ok (.iconst (-1), 1) := by decide +kernel
theorem dX5_settle_104 : decode cX5_settle 104 = .ok (.goto 6, 3) := by decide +kernel
theorem dX5_settle_107 : decode cX5_settle 107 = .ok (.iload_n 3, 1) := by decide +kernel
theorem dX5_settle_108 : decode cX5_settle 108 = .ok (.iconst 4, 1) := by decide +kernel
theorem dX5_settle_109 : decode cX5_settle 109 = .ok (.isub, 1) := by decide +kernel
theorem dX5_settle_110 : decode cX5_settle 110 = .ok (.iastore, 1) := by decide +kernel
theorem dX5_settle_111 : decode cX5_settle 111 = .ok (.return_, 1) := by decide +kernel
theorem dX5_settle_112 : decode cX5_settle 112 = .ok (.aload_n 0, 1) := by decide +kernel
theorem dX5_settle_113 : decode cX5_settle 113 = .ok (.getfield 18, 3) := by decide +kernel
theorem dX5_settle_116 : decode cX5_settle 116 = .ok (.iload_n 1, 1) := by decide +kernel
theorem dX5_settle_117 : decode cX5_settle 117 = .ok (.iaload, 1) := by decide +kernel
theorem dX5_settle_118 : decode cX5_settle 118 = .ok (.iconst 1, 1) := by decide +kernel
theorem dX5_settle_119 : decode cX5_settle 119 = .ok (.if_icmp .ne 4, 3) := by decide +kernel
theorem dX5_settle_122 : decode cX5_settle 122 = .ok (.return_, 1) := by decide +kernel
theorem dX5_settle_123 : decode cX5_settle 123 = .ok (.iinc 2 1, 3) := by decide +kernel
theorem dX5_settle_126 : decode cX5_settle 126 = .ok (.goto (-96), 3) := by decide +kernel
theorem dX5_settle_129 : decode cX5_settle 129 = .ok (.return_, 1) := by decide +kernel
theorem dX5_isLive_0 : decode cX5_isLive 0 = .ok (.aload_n 0, 1) := by decide +kernel
theorem dX5_isLive_1 : decode cX5_isLive 1 = .ok (.getfield 25, 3) := by decide +kernel
theorem dX5_isLive_4 : decode cX5_isLive 4 = .ok (.iload_n 1, 1) := by decide +kernel
theorem dX5_isLive_5 : decode cX5_isLive 5 = .ok (.ishr, 1) := by decide +kernel
theorem dX5_isLive_6 : decode cX5_isLive 6 = .ok (.iconst 1, 1) := by decide +kernel
theorem dX5_isLive_7 : decode cX5_isLive 7 = .ok (.iand, 1) := by decide +kernel
theorem dX5_isLive_8 : decode cX5_isLive 8 = .ok (.iconst 1, 1) := by decide +kernel
theorem dX5_isLive_9 : decode cX5_isLive 9 = .ok (.if_icmp .ne 7, 3) := by decide +kernel
theorem dX5_isLive_12 : decode cX5_isLive 12 = .ok (.iconst 1, 1) := by decide +kernel
theorem dX5_isLive_13 : decode cX5_isLive 13 = .ok (.goto 4, 3) := by decide +kernel
theorem dX5_isLive_16 : decode cX5_isLive 16 = .ok (.iconst 0, 1) := by decide +kernel
theorem dX5_isLive_17 : decode cX5_isLive 17 = .ok (.ireturn, 1) := by decide +kernel
theorem dX5_guardsAgainst_0 : decode cX5_guardsAgainst 0 = .ok (.aload_n 0, 1) := by decide +kernel
theorem dX5_guardsAgainst_1 : decode cX5_guardsAgainst 1 = .ok (.getfield 18, 3) := by decide +kernel
theorem dX5_guardsAgainst_4 : decode cX5_guardsAgainst 4 = .ok (.iload_n 1, 1) := by decide +kernel
theorem dX5_guardsAgainst_5 : decode cX5_guardsAgainst 5 = .ok (.iaload, 1) := by decide +kernel
theorem dX5_guardsAgainst_6 : decode cX5_guardsAgainst 6 = .ok (.ifCond .eq 17, 3) := by decide +kernel
theorem dX5_guardsAgainst_9 : decode cX5_guardsAgainst 9 = .ok (.aload_n 0, 1) := by decide +kernel
theorem dX5_guardsAgainst_10 : decode cX5_guardsAgainst 10 = .ok (.getfield 22, 3) := by decide +kernel
theorem dX5_guardsAgainst_13 : decode cX5_guardsAgainst 13 = .ok (.iload_n 1, 1) := by decide +kernel
theorem dX5_guardsAgainst_14 : decode cX5_guardsAgainst 14 = .ok (.iaload, 1) := by decide +kernel
theorem dX5_guardsAgainst_15 : decode cX5_guardsAgainst 15 = .ok (.iload_n 2, 1) := by decide +kernel
theorem dX5_guardsAgainst_16 : decode cX5_guardsAgainst 16 = .ok (.if_icmp .ne 7, 3) := by decide +kernel
theorem dX5_guardsAgainst_19 : decode cX5_guardsAgainst 19 = .ok (.iconst 1, 1) := by decide +kernel
theorem dX5_guardsAgainst_20 : decode cX5_guardsAgainst 20 = .ok (.goto 4, 3) := by decide +kernel
theorem dX5_guardsAgainst_23 : decode cX5_guardsAgainst 23 = .ok (.iconst 0, 1) := by decide +kernel
theorem dX5_guardsAgainst_24 : decode cX5_guardsAgainst 24 = .ok (.ireturn, 1) := by decide +kernel
set_option maxRecDepth 20000 in
theorem ggX5_outOfStep_X1_has : GoodIn wsX5_outOfStep wsX1_has := goodIn_r _ [7, 8, 24, 25, 26, 27, 28, 29] (by decide +kernel) (by decide +kernel)
set_option maxRecDepth 20000 in
theorem gX5_outOfStep_X1_has : GoodIn wsX5_outOfStep (wsV RX5 82 RX1 yX1_has wsX1_has) := goodIn_app (goodIn_of _ (by decide +kernel)) ggX5_outOfStep_X1_has
set_option maxRecDepth 20000 in
theorem ggX5_outOfStep_X5_isLive : GoodIn wsX5_outOfStep wsX5_isLive := goodIn_r _ [13, 14, 15, 16, 17, 18, 19, 20, 21, 22, 23] (by decide +kernel) (by decide +kernel)
set_option maxRecDepth 20000 in
theorem gX5_outOfStep_X5_isLive : GoodIn wsX5_outOfStep (wsV RX5 86 RX5 yX5_isLive wsX5_isLive) := goodIn_app (goodIn_of _ (by decide +kernel)) ggX5_outOfStep_X5_isLive
theorem dX5_outOfStep_0 : decode cX5_outOfStep 0 = .ok (.aload_n 0, 1) := by decide +kernel
theorem dX5_outOfStep_1 : decode cX5_outOfStep 1 = .ok (.getfield 12, 3) := by decide +kernel
theorem dX5_outOfStep_4 : decode cX5_outOfStep 4 = .ok (.iload_n 1, 1) := by decide +kernel
theorem dX5_outOfStep_5 : decode cX5_outOfStep 5 = .ok (.iconst 4, 1) := by decide +kernel
theorem dX5_outOfStep_6 : decode cX5_outOfStep 6 = .ok (.isub, 1) := by decide +kernel
theorem dX5_outOfStep_7 : decode cX5_outOfStep 7 = .ok (.invokevirtual 82, 3) := by decide +kernel
theorem dX5_outOfStep_10 : decode cX5_outOfStep 10 = .ok (.ifCond .eq 12, 3) := by decide +kernel
theorem dX5_outOfStep_13 : decode cX5_outOfStep 13 = .ok (.aload_n 0, 1) := by decide +kernel
theorem dX5_outOfStep_14 : decode cX5_outOfStep 14 = .ok (.getfield 29, 3) := by decide +kernel
theorem dX5_outOfStep_17 : decode cX5_outOfStep 17 = .ok (.iload_n 1, 1) := by decide +kernel
theorem dX5_outOfStep_18 : decode cX5_outOfStep 18 = .ok (.iconst 4, 1) := by decide +kernel
theorem dX5_outOfStep_19 : decode cX5_outOfStep 19 = .ok (.isub, 1) := by decide +kernel
theorem dX5_outOfStep_20 : decode cX5_outOfStep 20 = .ok (.iaload, 1) := by decide +kernel
theorem dX5_outOfStep_21 : decode cX5_outOfStep 21 = .ok (.ireturn, 1) := by decide +kernel
theorem dX5_outOfStep_22 : decode cX5_outOfStep 22 = .ok (.aload_n 0, 1) := by decide +kernel
theorem dX5_outOfStep_23 : decode cX5_outOfStep 23 = .ok (.iload_n 1, 1) := by decide +kernel
theorem dX5_outOfStep_24 : decode cX5_outOfStep 24 = .ok (.invokevirtual 86, 3) := by decide +kernel
theorem dX5_outOfStep_27 : decode cX5_outOfStep 27 = .ok (.ifCond .eq 7, 3) := by decide +kernel
theorem dX5_outOfStep_30 : decode cX5_outOfStep 30 = .ok (.iload_n 1, 1) := by decide +kernel
theorem dX5_outOfStep_31 : decode cX5_outOfStep 31 = .ok (.goto 4, 3) := by decide +kernel
theorem dX5_outOfStep_34 : decode cX5_outOfStep 34 = .ok (.iconst 4, 1) := by decide +kernel
theorem dX5_outOfStep_35 : decode cX5_outOfStep 35 = .ok (.ireturn, 1) := by decide +kernel
set_option maxRecDepth 20000 in
theorem ggX5_actsOfStep_X1_has : GoodIn wsX5_actsOfStep wsX1_has := goodIn_r _ [7, 8, 24, 25, 26, 27, 28, 29] (by decide +kernel) (by decide +kernel)
set_option maxRecDepth 20000 in
theorem gX5_actsOfStep_X1_has : GoodIn wsX5_actsOfStep (wsV RX5 82 RX1 yX1_has wsX1_has) := goodIn_app (goodIn_of _ (by decide +kernel)) ggX5_actsOfStep_X1_has
set_option maxRecDepth 20000 in
theorem ggX5_actsOfStep_X5_isLive : GoodIn wsX5_actsOfStep wsX5_isLive := goodIn_r _ [13, 14, 15, 16, 17, 18, 19, 20, 21, 22, 23] (by decide +kernel) (by decide +kernel)
set_option maxRecDepth 20000 in
theorem gX5_actsOfStep_X5_isLive : GoodIn wsX5_actsOfStep (wsV RX5 86 RX5 yX5_isLive wsX5_isLive) := goodIn_app (goodIn_of _ (by decide +kernel)) ggX5_actsOfStep_X5_isLive
theorem dX5_actsOfStep_0 : decode cX5_actsOfStep 0 = .ok (.aload_n 0, 1) := by decide +kernel
theorem dX5_actsOfStep_1 : decode cX5_actsOfStep 1 = .ok (.getfield 12, 3) := by decide +kernel
theorem dX5_actsOfStep_4 : decode cX5_actsOfStep 4 = .ok (.iload_n 1, 1) := by decide +kernel
theorem dX5_actsOfStep_5 : decode cX5_actsOfStep 5 = .ok (.iconst 4, 1) := by decide +kernel
theorem dX5_actsOfStep_6 : decode cX5_actsOfStep 6 = .ok (.isub, 1) := by decide +kernel
theorem dX5_actsOfStep_7 : decode cX5_actsOfStep 7 = .ok (.invokevirtual 82, 3) := by decide +kernel
theorem dX5_actsOfStep_10 : decode cX5_actsOfStep 10 = .ok (.ifCond .eq 12, 3) := by decide +kernel
theorem dX5_actsOfStep_13 : decode cX5_actsOfStep 13 = .ok (.aload_n 0, 1) := by decide +kernel
theorem dX5_actsOfStep_14 : decode cX5_actsOfStep 14 = .ok (.getfield 32, 3) := by decide +kernel
theorem dX5_actsOfStep_17 : decode cX5_actsOfStep 17 = .ok (.iload_n 1, 1) := by decide +kernel
theorem dX5_actsOfStep_18 : decode cX5_actsOfStep 18 = .ok (.iconst 4, 1) := by decide +kernel
theorem dX5_actsOfStep_19 : decode cX5_actsOfStep 19 = .ok (.isub, 1) := by decide +kernel
theorem dX5_actsOfStep_20 : decode cX5_actsOfStep 20 = .ok (.iaload, 1) := by decide +kernel
theorem dX5_actsOfStep_21 : decode cX5_actsOfStep 21 = .ok (.ireturn, 1) := by decide +kernel
theorem dX5_actsOfStep_22 : decode cX5_actsOfStep 22 = .ok (.aload_n 0, 1) := by decide +kernel
theorem dX5_actsOfStep_23 : decode cX5_actsOfStep 23 = .ok (.iload_n 1, 1) := by decide +kernel
theorem dX5_actsOfStep_24 : decode cX5_actsOfStep 24 = .ok (.invokevirtual 86, 3) := by decide +kernel
theorem dX5_actsOfStep_27 : decode cX5_actsOfStep 27 = .ok (.ifCond .eq 7, 3) := by decide +kernel
theorem dX5_actsOfStep_30 : decode cX5_actsOfStep 30 = .ok (.iconst 1, 1) := by decide +kernel
theorem dX5_actsOfStep_31 : decode cX5_actsOfStep 31 = .ok (.goto 4, 3) := by decide +kernel
theorem dX5_actsOfStep_34 : decode cX5_actsOfStep 34 = .ok (.iconst 0, 1) := by decide +kernel
theorem dX5_actsOfStep_35 : decode cX5_actsOfStep 35 = .ok (.ireturn, 1) := by decide +kernel
set_option maxRecDepth 20000 in
theorem ggX5_countStep_X5_actsOfStep : GoodIn wsX5_countStep wsX5_actsOfStep := goodIn_r _ [8, 2, 1, 9, 10, 11, 12, 13, 14, 15, 16, 17, 7, 18, 19, 20, 21, 22, 23, 24, 25, 26, 27, 28, 29, 30, 31, 32, 33, 34] (by decide +kernel) (by decide +kernel)
set_option maxRecDepth 20000 in
theorem gX5_countStep_X5_actsOfStep : GoodIn wsX5_countStep (wsV RX5 89 RX5 yX5_actsOfStep wsX5_actsOfStep) := goodIn_app (goodIn_of _ (by decide +kernel)) ggX5_countStep_X5_actsOfStep
set_option maxRecDepth 20000 in
theorem ggX5_countStep_X1_has : GoodIn wsX5_countStep wsX1_has := goodIn_r _ [13, 14, 29, 30, 31, 32, 33, 34] (by decide +kernel) (by decide +kernel)
set_option maxRecDepth 20000 in
theorem gX5_countStep_X1_has : GoodIn wsX5_countStep (wsV RX5 82 RX1 yX1_has wsX1_has) := goodIn_app (goodIn_of _ (by decide +kernel)) ggX5_countStep_X1_has
theorem dX5_countStep_0 : decode cX5_countStep 0 = .ok (.aload_n 0, 1) := by decide +kernel
theorem dX5_countStep_1 : decode cX5_countStep 1 = .ok (.getfield 32, 3) := by decide +kernel
theorem dX5_countStep_4 : decode cX5_countStep 4 = .ok (.iload_n 1, 1) := by decide +kernel
theorem dX5_countStep_5 : decode cX5_countStep 5 = .ok (.dup2, 1) := by decide +kernel
theorem dX5_countStep_6 : decode cX5_countStep 6 = .ok (.iaload, 1) := by decide +kernel
theorem dX5_countStep_7 : decode cX5_countStep 7 = .ok (.aload_n 0, 1) := by decide +kernel
theorem dX5_countStep_8 : decode cX5_countStep 8 = .ok (.iload_n 2, 1) := by decide +kernel
theorem dX5_countStep_9 : decode cX5_countStep 9 = .ok (.invokevirtual 89, 3) := by decide +kernel
theorem dX5_countStep_12 : decode cX5_countStep 12 = .ok (.iadd, 1) := by decide +kernel
theorem dX5_countStep_13 : decode cX5_countStep 13 = .ok (.iastore, 1) := by decide +kernel
theorem dX5_countStep_14 : decode cX5_countStep 14 = .ok (.aload_n 0, 1) := by decide +kernel
theorem dX5_countStep_15 : decode cX5_countStep 15 = .ok (.getfield 12, 3) := by decide +kernel
theorem dX5_countStep_18 : decode cX5_countStep 18 = .ok (.iload_n 2, 1) := by decide +kernel
theorem dX5_countStep_19 : decode cX5_countStep 19 = .ok (.iconst 4, 1) := by decide +kernel
theorem dX5_countStep_20 : decode cX5_countStep 20 = .ok (.isub, 1) := by decide +kernel
theorem dX5_countStep_21 : decode cX5_countStep 21 = .ok (.invokevirtual 82, 3) := by decide +kernel
theorem dX5_countStep_24 : decode cX5_countStep 24 = .ok (.ifCond .eq 20, 3) := by decide +kernel
theorem dX5_countStep_27 : decode cX5_countStep 27 = .ok (.aload_n 0, 1) := by decide +kernel
theorem dX5_countStep_28 : decode cX5_countStep 28 = .ok (.getfield 35, 3) := by decide +kernel
theorem dX5_countStep_31 : decode cX5_countStep 31 = .ok (.iload_n 1, 1) := by decide +kernel
theorem dX5_countStep_32 : decode cX5_countStep 32 = .ok (.dup2, 1) := by decide +kernel
theorem dX5_countStep_33 : decode cX5_countStep 33 = .ok (.iaload, 1) := by decide +kernel
theorem dX5_countStep_34 : decode cX5_countStep 34 = .ok (.aload_n 0, 1) := by decide +kernel
theorem dX5_countStep_35 : decode cX5_countStep 35 = .ok (.getfield 35, 3) := by decide +kernel
theorem dX5_countStep_38 : decode cX5_countStep 38 = .ok (.iload_n 2, 1) := by decide +kernel
theorem dX5_countStep_39 : decode cX5_countStep 39 = .ok (.iconst 4, 1) := by decide +kernel
theorem dX5_countStep_40 : decode cX5_countStep 40 = .ok (.isub, 1) := by decide +kernel
theorem dX5_countStep_41 : decode cX5_countStep 41 = .ok (.iaload, 1) := by decide +kernel
theorem dX5_countStep_42 : decode cX5_countStep 42 = .ok (.iadd, 1) := by decide +kernel
theorem dX5_countStep_43 : decode cX5_countStep 43 = .ok (.iastore, 1) := by decide +kernel
theorem dX5_countStep_44 : decode cX5_countStep 44 = .ok (.return_, 1) := by decide +kernel
theorem dX5_firstOut_0 : decode cX5_firstOut 0 = .ok (.aload_n 0, 1) := by decide +kernel
theorem dX5_firstOut_1 : decode cX5_firstOut 1 = .ok (.getfield 29, 3) := by decide +kernel
theorem dX5_firstOut_4 : decode cX5_firstOut 4 = .ok (.iload_n 1, 1) := by decide +kernel
theorem dX5_firstOut_5 : decode cX5_firstOut 5 = .ok (.iaload, 1) := by decide +kernel
theorem dX5_firstOut_6 : decode cX5_firstOut 6 = .ok (.iconst 4, 1) := by decide +kernel
theorem dX5_firstOut_7 : decode cX5_firstOut 7 = .ok (.if_icmp .eq 12, 3) := by decide +kernel
theorem dX5_firstOut_10 : decode cX5_firstOut 10 = .ok (.aload_n 0, 1) := by decide +kernel
theorem dX5_firstOut_11 : decode cX5_firstOut 11 = .ok (.getfield 29, 3) := by decide +kernel
theorem dX5_firstOut_14 : decode cX5_firstOut 14 = .ok (.iload_n 1, 1) := by decide +kernel
theorem dX5_firstOut_15 : decode cX5_firstOut 15 = .ok (.iaload, 1) := by decide +kernel
theorem dX5_firstOut_16 : decode cX5_firstOut 16 = .ok (.goto 9, 3) := by decide +kernel
theorem dX5_firstOut_19 : decode cX5_firstOut 19 = .ok (.aload_n 0, 1) := by decide +kernel
theorem dX5_firstOut_20 : decode cX5_firstOut 20 = .ok (.getfield 29, 3) := by decide +kernel
theorem dX5_firstOut_23 : decode cX5_firstOut 23 = .ok (.iload_n 2, 1) := by decide +kernel
theorem dX5_firstOut_24 : decode cX5_firstOut 24 = .ok (.iaload, 1) := by decide +kernel
theorem dX5_firstOut_25 : decode cX5_firstOut 25 = .ok (.ireturn, 1) := by decide +kernel
theorem dX5_howManyLetOut_0 : decode cX5_howManyLetOut 0 = .ok (.iconst 0, 1) := by decide +kernel
theorem dX5_howManyLetOut_1 : decode cX5_howManyLetOut 1 = .ok (.istore_n 1, 1) := by decide +kernel
theorem dX5_howManyLetOut_2 : decode cX5_howManyLetOut 2 = .ok (.iconst 0, 1) := by decide +kernel
theorem dX5_howManyLetOut_3 : decode cX5_howManyLetOut 3 = .ok (.istore_n 2, 1) := by decide +kernel
theorem dX5_howManyLetOut_4 : decode cX5_howManyLetOut 4 = .ok (.iload_n 2, 1) := by decide +kernel
theorem dX5_howManyLetOut_5 : decode cX5_howManyLetOut 5 = .ok (.aload_n 0, 1) := by decide +kernel
theorem dX5_howManyLetOut_6 : decode cX5_howManyLetOut 6 = .ok (.getfield 12, 3) := by decide +kernel
theorem dX5_howManyLetOut_9 : decode cX5_howManyLetOut 9 = .ok (.getfield 56, 3) := by decide +kernel
theorem dX5_howManyLetOut_12 : decode cX5_howManyLetOut 12 = .ok (.if_icmp .ge 22, 3) := by decide +kernel
theorem dX5_howManyLetOut_15 : decode cX5_howManyLetOut 15 = .ok (.aload_n 0, 1) := by decide +kernel
theorem dX5_howManyLetOut_16 : decode cX5_howManyLetOut 16 = .ok (.getfield 29, 3) := by decide +kernel
theorem dX5_howManyLetOut_19 : decode cX5_howManyLetOut 19 = .ok (.iload_n 2, 1) := by decide +kernel
theorem dX5_howManyLetOut_20 : decode cX5_howManyLetOut 20 = .ok (.iaload, 1) := by decide +kernel
theorem dX5_howManyLetOut_21 : decode cX5_howManyLetOut 21 = .ok (.iconst 4, 1) := by decide +kernel
theorem dX5_howManyLetOut_22 : decode cX5_howManyLetOut 22 = .ok (.if_icmp .eq 6, 3) := by decide +kernel
theorem dX5_howManyLetOut_25 : decode cX5_howManyLetOut 25 = .ok (.iinc 1 1, 3) := by decide +kernel
theorem dX5_howManyLetOut_28 : decode cX5_howManyLetOut 28 = .ok (.iinc 2 1, 3) := by decide +kernel
theorem dX5_howManyLetOut_31 : decode cX5_howManyLetOut 31 = .ok (.goto (-27), 3) := by decide +kernel
theorem dX5_howManyLetOut_34 : decode cX5_howManyLetOut 34 = .ok (.iload_n 1, 1) := by decide +kernel
theorem dX5_howManyLetOut_35 : decode cX5_howManyLetOut 35 = .ok (.ireturn, 1) := by decide +kernel
set_option maxRecDepth 20000 in
theorem ggX5_pathAt_X1_has : GoodIn wsX5_pathAt wsX1_has := goodIn_r _ [8, 9, 19, 20, 21, 22, 23, 24] (by decide +kernel) (by decide +kernel)
set_option maxRecDepth 20000 in
theorem gX5_pathAt_X1_has : GoodIn wsX5_pathAt (wsV RX5 82 RX1 yX1_has wsX1_has) := goodIn_app (goodIn_of _ (by decide +kernel)) ggX5_pathAt_X1_has
theorem dX5_pathAt_0 : decode cX5_pathAt 0 = .ok (.aload_n 0, 1) := by decide +kernel
theorem dX5_pathAt_1 : decode cX5_pathAt 1 = .ok (.getfield 29, 3) := by decide +kernel
theorem dX5_pathAt_4 : decode cX5_pathAt 4 = .ok (.iload_n 1, 1) := by decide +kernel
theorem dX5_pathAt_5 : decode cX5_pathAt 5 = .ok (.iaload, 1) := by decide +kernel
theorem dX5_pathAt_6 : decode cX5_pathAt 6 = .ok (.iconst 4, 1) := by decide +kernel
theorem dX5_pathAt_7 : decode cX5_pathAt 7 = .ok (.if_icmp .ne 6, 3) := by decide +kernel
theorem dX5_pathAt_10 : decode cX5_pathAt 10 = .ok (.bipush (-9), 2) := by decide +kernel
theorem dX5_pathAt_12 : decode cX5_pathAt 12 = .ok (.ireturn, 1) := by decide +kernel
theorem dX5_pathAt_13 : decode cX5_pathAt 13 = .ok (.iload_n 1, 1) := by decide +kernel
theorem dX5_pathAt_14 : decode cX5_pathAt 14 = .ok (.istore_n 3, 1) := by decide +kernel
theorem dX5_pathAt_15 : decode cX5_pathAt 15 = .ok (.iconst 0, 1) := by decide +kernel
theorem dX5_pathAt_16 : decode cX5_pathAt 16 = .ok (.istore 4, 2) := by decide +kernel
theorem dX5_pathAt_18 : decode cX5_pathAt 18 = .ok (.iload 4, 2) := by decide +kernel
theorem dX5_pathAt_20 : decode cX5_pathAt 20 = .ok (.iload_n 2, 1) := by decide +kernel
theorem dX5_pathAt_21 : decode cX5_pathAt 21 = .ok (.if_icmp .ge 36, 3) := by decide +kernel
theorem dX5_pathAt_24 : decode cX5_pathAt 24 = .ok (.iload_n 3, 1) := by decide +kernel
theorem dX5_pathAt_25 : decode cX5_pathAt 25 = .ok (.iconst (-1), 1) := by decide +kernel
theorem dX5_pathAt_26 : decode cX5_pathAt 26 = .ok (.if_icmp .eq 31, 3) := by decide +kernel
theorem dX5_pathAt_29 : decode cX5_pathAt 29 = .ok (.aload_n 0, 1) := by decide +kernel
theorem dX5_pathAt_30 : decode cX5_pathAt 30 = .ok (.getfield 12, 3) := by decide +kernel
theorem dX5_pathAt_33 : decode cX5_pathAt 33 = .ok (.iload_n 3, 1) := by decide +kernel
theorem dX5_pathAt_34 : decode cX5_pathAt 34 = .ok (.invokevirtual 82, 3) := by decide +kernel
theorem dX5_pathAt_37 : decode cX5_pathAt 37 = .ok (.ifCond .eq 12, 3) := by decide +kernel
theorem dX5_pathAt_40 : decode cX5_pathAt 40 = .ok (.aload_n 0, 1) := by decide +kernel
theorem dX5_pathAt_41 : decode cX5_pathAt 41 = .ok (.getfield 38, 3) := by decide +kernel
theorem dX5_pathAt_44 : decode cX5_pathAt 44 = .ok (.iload_n 3, 1) := by decide +kernel
theorem dX5_pathAt_45 : decode cX5_pathAt 45 = .ok (.iaload, 1) := by decide +kernel
theorem dX5_pathAt_46 : decode cX5_pathAt 46 = .ok (.goto 4, 3) := by decide +kernel
theorem dX5_pathAt_49 : decode cX5_pathAt 49 = .ok (.iconst (-1), 1) := by decide +kernel
theorem dX5_pathAt_50 : decode cX5_pathAt 50 = .ok (.istore_n 3, 1) := by decide +kernel
theorem dX5_pathAt_51 : decode cX5_pathAt 51 = .ok (.iinc 4 1, 3) := by decide +kernel
theorem dX5_pathAt_54 : decode cX5_pathAt 54 = .ok (.goto (-36), 3) := by decide +kernel
theorem dX5_pathAt_57 : decode cX5_pathAt 57 = .ok (.iload_n 3, 1) := by decide +kernel
theorem dX5_pathAt_58 : decode cX5_pathAt 58 = .ok (.iconst (-1), 1) := by decide +kernel
theorem dX5_pathAt_59 : decode cX5_pathAt 59 = .ok (.if_icmp .ne 8, 3) := by decide +kernel
theorem dX5_pathAt_62 : decode cX5_pathAt 62 = .ok (.bipush (-9), 2) := by decide +kernel
theorem dX5_pathAt_64 : decode cX5_pathAt 64 = .ok (.goto 4, 3) := by decide +kernel
theorem dX5_pathAt_67 : decode cX5_pathAt 67 = .ok (.iload_n 3, 1) := by decide +kernel
theorem dX5_pathAt_68 : decode cX5_pathAt 68 = .ok (.ireturn, 1) := by decide +kernel
set_option maxRecDepth 20000 in
theorem ggX5_pathLength_X5_pathAt : GoodIn wsX5_pathLength wsX5_pathAt := goodIn_r _ [5, 6, 7, 8, 9, 10, 11, 12, 13, 14, 15, 16, 17, 18, 19, 20, 21, 22, 23, 24, 25, 26, 27, 28, 29] (by decide +kernel) (by decide +kernel)
set_option maxRecDepth 20000 in
theorem gX5_pathLength_X5_pathAt : GoodIn wsX5_pathLength (wsV RX5 92 RX5 yX5_pathAt wsX5_pathAt) := goodIn_app (goodIn_of _ (by decide +kernel)) ggX5_pathLength_X5_pathAt
theorem dX5_pathLength_0 : decode cX5_pathLength 0 = .ok (.iconst 0, 1) := by decide +kernel
theorem dX5_pathLength_1 : decode cX5_pathLength 1 = .ok (.istore_n 2, 1) := by decide +kernel
theorem dX5_pathLength_2 : decode cX5_pathLength 2 = .ok (.iload_n 2, 1) := by decide +kernel
theorem dX5_pathLength_3 : decode cX5_pathLength 3 = .ok (.iconst 5, 1) := by decide +kernel
theorem dX5_pathLength_4 : decode cX5_pathLength 4 = .ok (.if_icmp .ge 20, 3) := by decide +kernel
theorem dX5_pathLength_7 : decode cX5_pathLength 7 = .ok (.aload_n 0, 1) := by decide +kernel
theorem dX5_pathLength_8 : decode cX5_pathLength 8 = .ok (.iload_n 1, 1) := by decide +kernel
theorem dX5_pathLength_9 : decode cX5_pathLength 9 = .ok (.iload_n 2, 1) := by decide +kernel
theorem dX5_pathLength_10 : decode cX5_pathLength 10 = .ok (.invokevirtual 92, 3) := by decide +kernel
theorem dX5_pathLength_13 : decode cX5_pathLength 13 = .ok (.bipush (-9), 2) := by decide +kernel
theorem dX5_pathLength_15 : decode cX5_pathLength 15 = .ok (.if_icmp .eq 9, 3) := by decide +kernel
theorem dX5_pathLength_18 : decode cX5_pathLength 18 = .ok (.iinc 2 1, 3) := by decide +kernel
theorem dX5_pathLength_21 : decode cX5_pathLength 21 = .ok (.goto (-19), 3) := by decide +kernel
theorem dX5_pathLength_24 : decode cX5_pathLength 24 = .ok (.iload_n 2, 1) := by decide +kernel
theorem dX5_pathLength_25 : decode cX5_pathLength 25 = .ok (.ireturn, 1) := by decide +kernel
set_option maxRecDepth 20000 in
theorem ggX5_actAt_X5_stepWithAct : GoodIn wsX5_actAt wsX5_stepWithAct := goodIn_r _ [7, 8, 9, 10, 6, 11, 2, 12, 13, 14, 15, 16, 17, 18, 19, 20, 21, 22, 23, 24, 25, 26, 27, 28, 29, 30, 31, 32, 1, 33, 34, 35, 36, 37, 38, 39, 40, 41, 42, 43, 44, 45, 46, 47, 48, 49, 50, 51, 52, 53] (by decide +kernel) (by decide +kernel)
set_option maxRecDepth 20000 in
theorem gX5_actAt_X5_stepWithAct : GoodIn wsX5_actAt (wsV RX5 95 RX5 yX5_stepWithAct wsX5_stepWithAct) := goodIn_app (goodIn_of _ (by decide +kernel)) ggX5_actAt_X5_stepWithAct
set_option maxRecDepth 20000 in
theorem ggX5_actAt_X1_stepAt : GoodIn wsX5_actAt wsX1_stepAt := goodIn_r _ [26, 27, 28, 13, 14, 15, 16, 17, 18, 19, 20, 21, 22, 48, 49, 50, 51, 52, 53] (by decide +kernel) (by decide +kernel)
set_option maxRecDepth 20000 in
theorem gX5_actAt_X1_stepAt : GoodIn wsX5_actAt (wsV RX5 66 RX1 yX1_stepAt wsX1_stepAt) := goodIn_app (goodIn_of _ (by decide +kernel)) ggX5_actAt_X1_stepAt
set_option maxRecDepth 20000 in
theorem ggX5_actAt_X5_actsAheadOf : GoodIn wsX5_actAt wsX5_actsAheadOf := goodIn_r _ [11, 2, 12, 13, 14, 15, 16, 17, 18, 19, 20, 21, 22, 23, 24, 25, 26, 27, 28, 29, 30, 31, 6, 32, 1, 33, 34, 35, 36, 37, 38, 39, 40, 41, 42, 43, 44, 45, 46, 47, 48, 49, 50, 51, 52, 53] (by decide +kernel) (by decide +kernel)
set_option maxRecDepth 20000 in
theorem gX5_actAt_X5_actsAheadOf : GoodIn wsX5_actAt (wsV RX5 98 RX5 yX5_actsAheadOf wsX5_actsAheadOf) := goodIn_app (goodIn_of _ (by decide +kernel)) ggX5_actAt_X5_actsAheadOf
theorem dX5_actAt_0 : decode cX5_actAt 0 = .ok (.iload_n 2, 1) := by decide +kernel
theorem dX5_actAt_1 : decode cX5_actAt 1 = .ok (.aload_n 0, 1) := by decide +kernel
theorem dX5_actAt_2 : decode cX5_actAt 2 = .ok (.getfield 32, 3) := by decide +kernel
theorem dX5_actAt_5 : decode cX5_actAt 5 = .ok (.iload_n 1, 1) := by decide +kernel
theorem dX5_actAt_6 : decode cX5_actAt 6 = .ok (.iaload, 1) := by decide +kernel
theorem dX5_actAt_7 : decode cX5_actAt 7 = .ok (.if_icmp .lt 6, 3) := by decide +kernel
theorem dX5_actAt_10 : decode cX5_actAt 10 = .ok (.bipush (-9), 2) := by decide +kernel
theorem dX5_actAt_12 : decode cX5_actAt 12 = .ok (.ireturn, 1) := by decide +kernel
theorem dX5_actAt_13 : decode cX5_actAt 13 = .ok (.iload_n 1, 1) := by decide +kernel
theorem dX5_actAt_14 : decode cX5_actAt 14 = .ok (.istore_n 3, 1) := by decide +kernel
theorem dX5_actAt_15 : decode cX5_actAt 15 = .ok (.iload_n 2, 1) := by decide +kernel
theorem dX5_actAt_16 : decode cX5_actAt 16 = .ok (.istore 4, 2) := by decide +kernel
theorem dX5_actAt_18 : decode cX5_actAt 18 = .ok (.iconst 0, 1) := by decide +kernel
theorem dX5_actAt_19 : decode cX5_actAt 19 = .ok (.istore 5, 2) := by decide +kernel
theorem dX5_actAt_21 : decode cX5_actAt 21 = .ok (.iload 5, 2) := by decide +kernel
theorem dX5_actAt_23 : decode cX5_actAt 23 = .ok (.iconst 5, 1) := by decide +kernel
theorem dX5_actAt_24 : decode cX5_actAt 24 = .ok (.if_icmp .ge 56, 3) := by decide +kernel
theorem dX5_actAt_27 : decode cX5_actAt 27 = .ok (.aload_n 0, 1) := by decide +kernel
theorem dX5_actAt_28 : decode cX5_actAt 28 = .ok (.iload_n 3, 1) := by decide +kernel
theorem dX5_actAt_29 : decode cX5_actAt 29 = .ok (.iload 4, 2) := by decide +kernel
theorem dX5_actAt_31 : decode cX5_actAt 31 = .ok (.invokevirtual 95, 3) := by decide +kernel
theorem dX5_actAt_34 : decode cX5_actAt 34 = .ok (.istore 6, 2) := by decide +kernel
theorem dX5_actAt_36 : decode cX5_actAt 36 = .ok (.aload_n 0, 1) := by decide +kernel
theorem dX5_actAt_37 : decode cX5_actAt 37 = .ok (.getfield 12, 3) := by decide +kernel
theorem dX5_actAt_40 : decode cX5_actAt 40 = .ok (.iload_n 3, 1) := by decide +kernel
theorem dX5_actAt_41 : decode cX5_actAt 41 = .ok (.iload 6, 2) := by decide +kernel
theorem dX5_actAt_43 : decode cX5_actAt 43 = .ok (.invokevirtual 66, 3) := by decide +kernel
theorem dX5_actAt_46 : decode cX5_actAt 46 = .ok (.istore 7, 2) := by decide +kernel
theorem dX5_actAt_48 : decode cX5_actAt 48 = .ok (.iload 7, 2) := by decide +kernel
theorem dX5_actAt_50 : decode cX5_actAt 50 = .ok (.iconst 4, 1) := by decide +kernel
theorem dX5_actAt_51 : decode cX5_actAt 51 = .ok (.if_icmp .ge 6, 3) := by decide +kernel
theorem dX5_actAt_54 : decode cX5_actAt 54 = .ok (.iload 7, 2) := by decide +kernel
theorem dX5_actAt_56 : decode cX5_actAt 56 = .ok (.ireturn, 1) := by decide +kernel
theorem dX5_actAt_57 : decode cX5_actAt 57 = .ok (.iload 4, 2) := by decide +kernel
theorem dX5_actAt_59 : decode cX5_actAt 59 = .ok (.aload_n 0, 1) := by decide +kernel
theorem dX5_actAt_60 : decode cX5_actAt 60 = .ok (.iload_n 3, 1) := by decide +kernel
theorem dX5_actAt_61 : decode cX5_actAt 61 = .ok (.iload 6, 2) := by decide +kernel
theorem dX5_actAt_63 : decode cX5_actAt 63 = .ok (.invokevirtual 98, 3) := by decide +kernel
theorem dX5_actAt_66 : decode cX5_actAt 66 = .ok (.isub, 1) := by decide +kernel
theorem dX5_actAt_67 : decode cX5_actAt 67 = .ok (.istore 4, 2) := by decide +kernel
theorem dX5_actAt_69 : decode cX5_actAt 69 = .ok (.iload 7, 2) := by decide +kernel
theorem dX5_actAt_71 : decode cX5_actAt 71 = .ok (.iconst 4, 1) := by decide +kernel
theorem dX5_actAt_72 : decode cX5_actAt 72 = .ok (.isub, 1) := by decide +kernel
theorem dX5_actAt_73 : decode cX5_actAt 73 = .ok (.istore_n 3, 1) := by decide +kernel
theorem dX5_actAt_74 : decode cX5_actAt 74 = .ok (.iinc 5 1, 3) := by decide +kernel
theorem dX5_actAt_77 : decode cX5_actAt 77 = .ok (.goto (-56), 3) := by decide +kernel
theorem dX5_actAt_80 : decode cX5_actAt 80 = .ok (.bipush (-9), 2) := by decide +kernel
theorem dX5_actAt_82 : decode cX5_actAt 82 = .ok (.ireturn, 1) := by decide +kernel
set_option maxRecDepth 20000 in
theorem ggX5_stepWithAct_X5_actsAheadOf : GoodIn wsX5_stepWithAct wsX5_actsAheadOf := goodIn_r _ [5, 6, 7, 8, 9, 10, 11, 12, 13, 14, 15, 16, 17, 18, 19, 20, 21, 22, 23, 24, 25, 26, 4, 27, 28, 29, 30, 31, 32, 33, 34, 35, 36, 37, 38, 39, 40, 41, 42, 43, 44, 45, 46, 47, 48, 49] (by decide +kernel) (by decide +kernel)
set_option maxRecDepth 20000 in
theorem gX5_stepWithAct_X5_actsAheadOf : GoodIn wsX5_stepWithAct (wsV RX5 98 RX5 yX5_actsAheadOf wsX5_actsAheadOf) := goodIn_app (goodIn_of _ (by decide +kernel)) ggX5_stepWithAct_X5_actsAheadOf
theorem dX5_stepWithAct_0 : decode cX5_stepWithAct 0 = .ok (.iconst 0, 1) := by decide +kernel
theorem dX5_stepWithAct_1 : decode cX5_stepWithAct 1 = .ok (.istore_n 3, 1) := by decide +kernel
theorem dX5_stepWithAct_2 : decode cX5_stepWithAct 2 = .ok (.iload_n 3, 1) := by decide +kernel
theorem dX5_stepWithAct_3 : decode cX5_stepWithAct 3 = .ok (.iconst 4, 1) := by decide +kernel
theorem dX5_stepWithAct_4 : decode cX5_stepWithAct 4 = .ok (.if_icmp .ge 21, 3) := by decide +kernel
theorem dX5_stepWithAct_7 : decode cX5_stepWithAct 7 = .ok (.aload_n 0, 1) := by decide +kernel
theorem dX5_stepWithAct_8 : decode cX5_stepWithAct 8 = .ok (.iload_n 1, 1) := by decide +kernel
theorem dX5_stepWithAct_9 : decode cX5_stepWithAct 9 = .ok (.iload_n 3, 1) := by decide +kernel
theorem dX5_stepWithAct_10 : decode cX5_stepWithAct 10 = .ok (.iconst 1, 1) := by decide +kernel
theorem dX5_stepWithAct_11 : decode cX5_stepWithAct 11 = .ok (.iadd, 1) := by decide +kernel
theorem dX5_stepWithAct_12 : decode cX5_stepWithAct 12 = .ok (.invokevirtual 98, 3) := by decide +kernel
theorem dX5_stepWithAct_15 : decode cX5_stepWithAct 15 = .ok (.iload_n 2, 1) := by decide +kernel
theorem dX5_stepWithAct_16 : decode cX5_stepWithAct 16 = .ok (.if_icmp .gt 9, 3) := by decide +kernel
theorem dX5_stepWithAct_19 : decode cX5_stepWithAct 19 = .ok (.iinc 3 1, 3) := by decide +kernel
theorem dX5_stepWithAct_22 : decode cX5_stepWithAct 22 = .ok (.goto (-20), 3) := by decide +kernel
theorem dX5_stepWithAct_25 : decode cX5_stepWithAct 25 = .ok (.iload_n 3, 1) := by decide +kernel
theorem dX5_stepWithAct_26 : decode cX5_stepWithAct 26 = .ok (.ireturn, 1) := by decide +kernel
set_option maxRecDepth 20000 in
theorem ggX5_actsAheadOf_X1_hasStep : GoodIn wsX5_actsAheadOf wsX1_hasStep := goodIn_r _ [6, 7, 8, 9, 10, 5, 11, 12, 40, 41, 42, 43, 44, 45] (by decide +kernel) (by decide +kernel)
set_option maxRecDepth 20000 in
theorem gX5_actsAheadOf_X1_hasStep : GoodIn wsX5_actsAheadOf (wsV RX5 101 RX1 yX1_hasStep wsX1_hasStep) := goodIn_app (goodIn_of _ (by decide +kernel)) ggX5_actsAheadOf_X1_hasStep
set_option maxRecDepth 20000 in
theorem ggX5_actsAheadOf_X1_stepAt : GoodIn wsX5_actsAheadOf wsX1_stepAt := goodIn_r _ [16, 17, 18, 3, 4, 5, 6, 7, 8, 9, 10, 11, 12, 40, 41, 42, 43, 44, 45] (by decide +kernel) (by decide +kernel)
set_option maxRecDepth 20000 in
theorem gX5_actsAheadOf_X1_stepAt : GoodIn wsX5_actsAheadOf (wsV RX5 66 RX1 yX1_stepAt wsX1_stepAt) := goodIn_app (goodIn_of _ (by decide +kernel)) ggX5_actsAheadOf_X1_stepAt
set_option maxRecDepth 20000 in
theorem ggX5_actsAheadOf_X5_actsOfStep : GoodIn wsX5_actsAheadOf wsX5_actsOfStep := goodIn_r _ [23, 1, 24, 25, 9, 10, 5, 11, 12, 26, 27, 28, 22, 29, 30, 31, 32, 33, 34, 35, 36, 37, 38, 39, 40, 41, 42, 43, 44, 45] (by decide +kernel) (by decide +kernel)
set_option maxRecDepth 20000 in
theorem gX5_actsAheadOf_X5_actsOfStep : GoodIn wsX5_actsAheadOf (wsV RX5 89 RX5 yX5_actsOfStep wsX5_actsOfStep) := goodIn_app (goodIn_of _ (by decide +kernel)) ggX5_actsAheadOf_X5_actsOfStep
theorem dX5_actsAheadOf_0 : decode cX5_actsAheadOf 0 = .ok (.iconst 0, 1) := by decide +kernel
theorem dX5_actsAheadOf_1 : decode cX5_actsAheadOf 1 = .ok (.istore_n 3, 1) := by decide +kernel
theorem dX5_actsAheadOf_2 : decode cX5_actsAheadOf 2 = .ok (.iconst 0, 1) := by decide +kernel
theorem dX5_actsAheadOf_3 : decode cX5_actsAheadOf 3 = .ok (.istore 4, 2) := by decide +kernel
theorem dX5_actsAheadOf_5 : decode cX5_actsAheadOf 5 = .ok (.iload 4, 2) := by decide +kernel
theorem dX5_actsAheadOf_7 : decode cX5_actsAheadOf 7 = .ok (.iload_n 2, 1) := by decide +kernel
theorem dX5_actsAheadOf_8 : decode cX5_actsAheadOf 8 = .ok (.if_icmp .ge 39, 3) := by decide +kernel
theorem dX5_actsAheadOf_11 : decode cX5_actsAheadOf 11 = .ok (.aload_n 0, 1) := by decide +kernel
theorem dX5_actsAheadOf_12 : decode cX5_actsAheadOf 12 = .ok (.getfield 12, 3) := by decide +kernel
theorem dX5_actsAheadOf_15 : decode cX5_actsAheadOf 15 = .ok (.iload_n 1, 1) := by decide +kernel
theorem dX5_actsAheadOf_16 : decode cX5_actsAheadOf 16 = .ok (.iload 4, 2) := by decide +kernel
theorem dX5_actsAheadOf_18 : decode cX5_actsAheadOf 18 = .ok (.invokevirtual 101, 3) := by decide +kernel
theorem dX5_actsAheadOf_21 : decode cX5_actsAheadOf 21 = .ok (.ifCond .eq 26, 3) := by decide +kernel
theorem dX5_actsAheadOf_24 : decode cX5_actsAheadOf 24 = .ok (.iload_n 3, 1) := by decide +kernel
theorem dX5_actsAheadOf_25 : decode cX5_actsAheadOf 25 = .ok (.aload_n 0, 1) := by decide +kernel
theorem dX5_actsAheadOf_26 : decode cX5_actsAheadOf 26 = .ok (.aload_n 0, 1) := by decide +kernel
theorem dX5_actsAheadOf_27 : decode cX5_actsAheadOf 27 = .ok (.getfield 12, 3) := by decide +kernel
theorem dX5_actsAheadOf_30 : decode cX5_actsAheadOf 30 = .ok (.iload_n 1, 1) := by decide +kernel
theorem dX5_actsAheadOf_31 : decode cX5_actsAheadOf 31 = .ok (.iload 4, 2) := by decide +kernel
theorem dX5_actsAheadOf_33 : decode cX5_actsAheadOf 33 = .ok (.invokevirtual 66, 3) := by decide +kernel
theorem dX5_actsAheadOf_36 : decode cX5_actsAheadOf 36 = .ok (.invokevirtual 89, 3) := by decide +kernel
theorem dX5_actsAheadOf_39 : decode cX5_actsAheadOf 39 = .ok (.iadd, 1) := by decide +kernel
theorem dX5_actsAheadOf_40 : decode cX5_actsAheadOf 40 = .ok (.istore_n 3, 1) := by decide +kernel
theorem dX5_actsAheadOf_41 : decode cX5_actsAheadOf 41 = .ok (.iinc 4 1, 3) := by decide +kernel
theorem dX5_actsAheadOf_44 : decode cX5_actsAheadOf 44 = .ok (.goto (-39), 3) := by decide +kernel
theorem dX5_actsAheadOf_47 : decode cX5_actsAheadOf 47 = .ok (.iload_n 3, 1) := by decide +kernel
theorem dX5_actsAheadOf_48 : decode cX5_actsAheadOf 48 = .ok (.ireturn, 1) := by decide +kernel
set_option maxRecDepth 20000 in
theorem ggX5_gatherRows_X1_stepAt : GoodIn wsX5_gatherRows wsX1_stepAt := goodIn_r _ [9, 10, 11, 12, 13, 8, 14, 15, 16, 17, 18, 19, 20, 31, 32, 33, 34, 35, 36] (by decide +kernel) (by decide +kernel)
set_option maxRecDepth 20000 in
theorem gX5_gatherRows_X1_stepAt : GoodIn wsX5_gatherRows (wsV RX5 66 RX1 yX1_stepAt wsX1_stepAt) := goodIn_app (goodIn_of _ (by decide +kernel)) ggX5_gatherRows_X1_stepAt
set_option maxRecDepth 20000 in
theorem ggX5_gatherRows_X1_has : GoodIn wsX5_gatherRows wsX1_has := goodIn_r _ [19, 20, 31, 32, 33, 34, 35, 36] (by decide +kernel) (by decide +kernel)
set_option maxRecDepth 20000 in
theorem gX5_gatherRows_X1_has : GoodIn wsX5_gatherRows (wsV RX5 82 RX1 yX1_has wsX1_has) := goodIn_app (goodIn_of _ (by decide +kernel)) ggX5_gatherRows_X1_has
theorem dX5_gatherRows_0 : decode cX5_gatherRows 0 = .ok (.iconst 0, 1) := by decide +kernel
theorem dX5_gatherRows_1 : decode cX5_gatherRows 1 = .ok (.istore_n 1, 1) := by decide +kernel
theorem dX5_gatherRows_2 : decode cX5_gatherRows 2 = .ok (.iload_n 1, 1) := by decide +kernel
theorem dX5_gatherRows_3 : decode cX5_gatherRows 3 = .ok (.aload_n 0, 1) := by decide +kernel
theorem dX5_gatherRows_4 : decode cX5_gatherRows 4 = .ok (.getfield 12, 3) := by decide +kernel
theorem dX5_gatherRows_7 : decode cX5_gatherRows 7 = .ok (.getfield 56, 3) := by decide +kernel
theorem dX5_gatherRows_10 : decode cX5_gatherRows 10 = .ok (.if_icmp .ge 107, 3) := by decide +kernel
theorem dX5_gatherRows_13 : decode cX5_gatherRows 13 = .ok (.iconst 0, 1) := by decide +kernel
theorem dX5_gatherRows_14 : decode cX5_gatherRows 14 = .ok (.istore_n 2, 1) := by decide +kernel
theorem dX5_gatherRows_15 : decode cX5_gatherRows 15 = .ok (.iconst 0, 1) := by decide +kernel
theorem dX5_gatherRows_16 : decode cX5_gatherRows 16 = .ok (.istore_n 3, 1) := by decide +kernel
theorem dX5_gatherRows_17 : decode cX5_gatherRows 17 = .ok (.iload_n 3, 1) := by decide +kernel
theorem dX5_gatherRows_18 : decode cX5_gatherRows 18 = .ok (.aload_n 0, 1) := by decide +kernel
theorem dX5_gatherRows_19 : decode cX5_gatherRows 19 = .ok (.getfield 12, 3) := by decide +kernel
theorem dX5_gatherRows_22 : decode cX5_gatherRows 22 = .ok (.getfield 63, 3) := by decide +kernel
theorem dX5_gatherRows_25 : decode cX5_gatherRows 25 = .ok (.iload_n 1, 1) := by decide +kernel
theorem dX5_gatherRows_26 : decode cX5_gatherRows 26 = .ok (.iaload, 1) := by decide +kernel
theorem dX5_gatherRows_27 : decode cX5_gatherRows 27 = .ok (.if_icmp .ge 53, 3) := by decide +kernel
theorem dX5_gatherRows_30 : decode cX5_gatherRows 30 = .ok (.aload_n 0, 1) := by decide +kernel
theorem dX5_gatherRows_31 : decode cX5_gatherRows 31 = .ok (.getfield 12, 3) := by decide +kernel
theorem dX5_gatherRows_34 : decode cX5_gatherRows 34 = .ok (.iload_n 1, 1) := by decide +kernel
theorem dX5_gatherRows_35 : decode cX5_gatherRows 35 = .ok (.iload_n 3, 1) := by decide +kernel
theorem dX5_gatherRows_36 : decode cX5_gatherRows 36 = .ok (.invokevirtual 66, 3) := by decide +kernel
theorem dX5_gatherRows_39 : decode cX5_gatherRows 39 = .ok (.istore 4, 2) := by decide +kernel
theorem dX5_gatherRows_41 : decode cX5_gatherRows 41 = .ok (.iload_n 2, 1) := by decide +kernel
theorem dX5_gatherRows_42 : decode cX5_gatherRows 42 = .ok (.aload_n 0, 1) := by decide +kernel
theorem dX5_gatherRows_43 : decode cX5_gatherRows 43 = .ok (.getfield 12, 3) := by decide +kernel
theorem dX5_gatherRows_46 : decode cX5_gatherRows 46 = .ok (.iload 4, 2) := by decide +kernel
theorem dX5_gatherRows_48 : decode cX5_gatherRows 48 = .ok (.iconst 4, 1) := by decide +kernel
theorem dX5_gatherRows_49 : decode cX5_gatherRows 49 = .ok (.isub, 1) := by decide +kernel
theorem dX5_gatherRows_50 : decode cX5_gatherRows 50 = .ok (.invokevirtual 82, 3) := by decide +kernel
theorem dX5_gatherRows_53 : decode cX5_gatherRows 53 = .ok (.ifCond .eq 15, 3) := by decide +kernel
theorem dX5_gatherRows_56 : decode cX5_gatherRows 56 = .ok (.aload_n 0, 1) := by decide +kernel
theorem dX5_gatherRows_57 : decode cX5_gatherRows 57 = .ok (.getfield 41, 3) := by decide +kernel
theorem dX5_gatherRows_60 : decode cX5_gatherRows 60 = .ok (.iload 4, 2) := by decide +kernel
theorem dX5_gatherRows_62 : decode cX5_gatherRows 62 = .ok (.iconst 4, 1) := by decide +kernel
theorem dX5_gatherRows_63 : decode cX5_gatherRows 63 = .ok (.isub, 1) := by decide +kernel
theorem dX5_gatherRows_64 : decode cX5_gatherRows 64 = .ok (.iaload, 1) := by decide +kernel
theorem dX5_gatherRows_65 : decode cX5_gatherRows 65 = .ok (.goto 7, 3) := by decide +kernel
theorem dX5_gatherRows_68 : decode cX5_gatherRows 68 = .ok (.iconst 1, 1) := by decide +kernel
theorem dX5_gatherRows_69 : decode cX5_gatherRows 69 = .ok (.iload 4, 2) := by decide +kernel
theorem dX5_gatherRows_71 : decode cX5_gatherRows 71 = .ok (.ishl, 1) := by decide +kernel
theorem dX5_gatherRows_72 : decode cX5_gatherRows 72 = .ok (.ior, 1) := by decide +kernel
theorem dX5_gatherRows_73 : decode cX5_gatherRows 73 = .ok (.istore_n 2, 1) := by decide +kernel
theorem dX5_gatherRows_74 : decode cX5_gatherRows 74 = .ok (.iinc 3 1, 3) := by decide +kernel
theorem dX5_gatherRows_77 : decode cX5_gatherRows 77 = .ok (.goto (-60), 3) := by decide +kernel
theorem dX5_gatherRows_80 : decode cX5_gatherRows 80 = .ok (.aload_n 0, 1) := by decide +kernel
theorem dX5_gatherRows_81 : decode cX5_gatherRows 81 = .ok (.getfield 41, 3) := by decide +kernel
theorem dX5_gatherRows_84 : decode cX5_gatherRows 84 = .ok (.iload_n 1, 1) := by decide +kernel
theorem dX5_gatherRows_85 : decode cX5_gatherRows 85 = .ok (.aload_n 0, 1) := by decide +kernel
theorem dX5_gatherRows_86 : decode cX5_gatherRows 86 = .ok (.getfield 18, 3) := by decide +kernel
theorem dX5_gatherRows_89 : decode cX5_gatherRows 89 = .ok (.iload_n 1, 1) := by decide +kernel
theorem dX5_gatherRows_90 : decode cX5_gatherRows 90 = .ok (.iaload, 1) := by decide +kernel
theorem dX5_gatherRows_91 : decode cX5_gatherRows 91 = .ok (.ifCond .ne 7, 3) := by decide +kernel
theorem dX5_gatherRows_94 : decode cX5_gatherRows 94 = .ok (.iload_n 2, 1) := by decide +kernel
theorem dX5_gatherRows_95 : decode cX5_gatherRows 95 = .ok (.goto 15, 3) := by decide +kernel
theorem dX5_gatherRows_98 : decode cX5_gatherRows 98 = .ok (.iload_n 2, 1) := by decide +kernel
theorem dX5_gatherRows_99 : decode cX5_gatherRows 99 = .ok (.iconst 1, 1) := by decide +kernel
theorem dX5_gatherRows_100 : decode cX5_gatherRows 100 = .ok (.aload_n 0, 1) := by decide +kernel
theorem dX5_gatherRows_101 : decode cX5_gatherRows 101 = .ok (.getfield 22, 3) := by decide +kernel
theorem dX5_gatherRows_104 : decode cX5_gatherRows 104 = .ok (.iload_n 1, 1) := by decide +kernel
theorem dX5_gatherRows_105 : decode cX5_gatherRows 105 = .ok (.iaload, 1) := by decide +kernel
theorem dX5_gatherRows_106 : decode cX5_gatherRows 106 = .ok (.ishl, 1) := by decide +kernel
theorem dX5_gatherRows_107 : decode cX5_gatherRows 107 = .ok (.iconst (-1), 1) := by decide +kernel
theorem dX5_gatherRows_108 : decode cX5_gatherRows 108 = .ok (.ixor, 1) := by decide +kernel
theorem dX5_gatherRows_109 : decode cX5_gatherRows 109 = .ok (.iand, 1) := by decide +kernel
theorem dX5_gatherRows_110 : decode cX5_gatherRows 110 = .ok (.iastore, 1) := by decide +kernel
theorem dX5_gatherRows_111 : decode cX5_gatherRows 111 = .ok (.iinc 1 1, 3) := by decide +kernel
theorem dX5_gatherRows_114 : decode cX5_gatherRows 114 = .ok (.goto (-112), 3) := by decide +kernel
theorem dX5_gatherRows_117 : decode cX5_gatherRows 117 = .ok (.return_, 1) := by decide +kernel
set_option maxRecDepth 20000 in
theorem ggX5_rowOf_X5_gatherRows : GoodIn wsX5_rowOf wsX5_gatherRows := goodIn_r _ [6, 7, 1, 8, 9, 10, 11, 12, 13, 14, 15, 16, 17, 18, 19, 20, 21, 22, 23, 24, 25, 26, 27, 28, 29, 30, 31, 32, 33, 34, 35, 36, 37, 38, 39, 40, 41] (by decide +kernel) (by decide +kernel)
set_option maxRecDepth 20000 in
theorem gX5_rowOf_X5_gatherRows : GoodIn wsX5_rowOf (wsV RX5 104 RX5 yX5_gatherRows wsX5_gatherRows) := goodIn_app (goodIn_of _ (by decide +kernel)) ggX5_rowOf_X5_gatherRows
theorem dX5_rowOf_0 : decode cX5_rowOf 0 = .ok (.aload_n 0, 1) := by decide +kernel
theorem dX5_rowOf_1 : decode cX5_rowOf 1 = .ok (.invokevirtual 104, 3) := by decide +kernel
theorem dX5_rowOf_4 : decode cX5_rowOf 4 = .ok (.aload_n 0, 1) := by decide +kernel
theorem dX5_rowOf_5 : decode cX5_rowOf 5 = .ok (.getfield 41, 3) := by decide +kernel
theorem dX5_rowOf_8 : decode cX5_rowOf 8 = .ok (.iload_n 1, 1) := by decide +kernel
theorem dX5_rowOf_9 : decode cX5_rowOf 9 = .ok (.iaload, 1) := by decide +kernel
theorem dX5_rowOf_10 : decode cX5_rowOf 10 = .ok (.ireturn, 1) := by decide +kernel
set_option maxRecDepth 20000 in
theorem ggX5_rowOfAll_X5_gatherRows : GoodIn wsX5_rowOfAll wsX5_gatherRows := goodIn_r _ [7, 1, 2, 8, 9, 10, 11, 12, 13, 14, 15, 16, 17, 18, 19, 20, 21, 22, 23, 24, 25, 26, 27, 28, 29, 30, 31, 32, 33, 34, 35, 36, 37, 38, 39, 40, 41] (by decide +kernel) (by decide +kernel)
set_option maxRecDepth 20000 in
theorem gX5_rowOfAll_X5_gatherRows : GoodIn wsX5_rowOfAll (wsV RX5 104 RX5 yX5_gatherRows wsX5_gatherRows) := goodIn_app (goodIn_of _ (by decide +kernel)) ggX5_rowOfAll_X5_gatherRows
theorem dX5_rowOfAll_0 : decode cX5_rowOfAll 0 = .ok (.aload_n 0, 1) := by decide +kernel
theorem dX5_rowOfAll_1 : decode cX5_rowOfAll 1 = .ok (.invokevirtual 104, 3) := by decide +kernel
theorem dX5_rowOfAll_4 : decode cX5_rowOfAll 4 = .ok (.iconst 0, 1) := by decide +kernel
theorem dX5_rowOfAll_5 : decode cX5_rowOfAll 5 = .ok (.istore_n 1, 1) := by decide +kernel
theorem dX5_rowOfAll_6 : decode cX5_rowOfAll 6 = .ok (.iconst 0, 1) := by decide +kernel
theorem dX5_rowOfAll_7 : decode cX5_rowOfAll 7 = .ok (.istore_n 2, 1) := by decide +kernel
theorem dX5_rowOfAll_8 : decode cX5_rowOfAll 8 = .ok (.iload_n 2, 1) := by decide +kernel
theorem dX5_rowOfAll_9 : decode cX5_rowOfAll 9 = .ok (.aload_n 0, 1) := by decide +kernel
theorem dX5_rowOfAll_10 : decode cX5_rowOfAll 10 = .ok (.getfield 12, 3) := by decide +kernel
theorem dX5_rowOfAll_13 : decode cX5_rowOfAll 13 = .ok (.getfield 56, 3) := by decide +kernel
theorem dX5_rowOfAll_16 : decode cX5_rowOfAll 16 = .ok (.if_icmp .ge 18, 3) := by decide +kernel
theorem dX5_rowOfAll_19 : decode cX5_rowOfAll 19 = .ok (.iload_n 1, 1) := by decide +kernel
theorem dX5_rowOfAll_20 : decode cX5_rowOfAll 20 = .ok (.aload_n 0, 1) := by decide +kernel
theorem dX5_rowOfAll_21 : decode cX5_rowOfAll 21 = .ok (.getfield 41, 3) := by decide +kernel
theorem dX5_rowOfAll_24 : decode cX5_rowOfAll 24 = .ok (.iload_n 2, 1) := by decide +kernel
theorem dX5_rowOfAll_25 : decode cX5_rowOfAll 25 = .ok (.iaload, 1) := by decide +kernel
theorem dX5_rowOfAll_26 : decode cX5_rowOfAll 26 = .ok (.ior, 1) := by decide +kernel
theorem dX5_rowOfAll_27 : decode cX5_rowOfAll 27 = .ok (.istore_n 1, 1) := by decide +kernel
theorem dX5_rowOfAll_28 : decode cX5_rowOfAll 28 = .ok (.iinc 2 1, 3) := by decide +kernel
theorem dX5_rowOfAll_31 : decode cX5_rowOfAll 31 = .ok (.goto (-23), 3) := by decide +kernel
theorem dX5_rowOfAll_34 : decode cX5_rowOfAll 34 = .ok (.iload_n 1, 1) := by decide +kernel
theorem dX5_rowOfAll_35 : decode cX5_rowOfAll 35 = .ok (.ireturn, 1) := by decide +kernel
set_option maxRecDepth 20000 in
theorem ggX5_mayOf_X5_settleBy : GoodIn wsX5_mayOf wsX5_settleBy := goodIn_r _ [6, 7, 8, 9, 10, 5, 11, 12, 13, 14, 15, 16, 1, 17, 18, 19, 20, 21, 22, 23, 24, 25, 26, 27, 28, 29, 30, 31, 32, 33, 34, 35, 36, 37, 38, 39, 40, 41, 42, 43, 44, 45, 46, 47, 48, 49, 50, 51, 52, 53, 54, 55, 56, 57, 58, 59, 60, 61, 62, 63, 64, 65, 66, 67, 68, 69, 70, 71, 72, 73] (by decide +kernel) (by decide +kernel)
set_option maxRecDepth 20000 in
theorem gX5_mayOf_X5_settleBy : GoodIn wsX5_mayOf (wsV RX5 107 RX5 yX5_settleBy wsX5_settleBy) := goodIn_app (goodIn_of _ (by decide +kernel)) ggX5_mayOf_X5_settleBy
theorem dX5_mayOf_0 : decode cX5_mayOf 0 = .ok (.iconst 0, 1) := by decide +kernel
theorem dX5_mayOf_1 : decode cX5_mayOf 1 = .ok (.istore_n 2, 1) := by decide +kernel
theorem dX5_mayOf_2 : decode cX5_mayOf 2 = .ok (.iconst 0, 1) := by decide +kernel
theorem dX5_mayOf_3 : decode cX5_mayOf 3 = .ok (.istore_n 3, 1) := by decide +kernel
theorem dX5_mayOf_4 : decode cX5_mayOf 4 = .ok (.iload_n 3, 1) := by decide +kernel
theorem dX5_mayOf_5 : decode cX5_mayOf 5 = .ok (.bipush 16, 2) := by decide +kernel
theorem dX5_mayOf_7 : decode cX5_mayOf 7 = .ok (.if_icmp .ge 35, 3) := by decide +kernel
theorem dX5_mayOf_10 : decode cX5_mayOf 10 = .ok (.aload_n 0, 1) := by decide +kernel
theorem dX5_mayOf_11 : decode cX5_mayOf 11 = .ok (.iload_n 3, 1) := by decide +kernel
theorem dX5_mayOf_12 : decode cX5_mayOf 12 = .ok (.invokevirtual 107, 3) := by decide +kernel
theorem dX5_mayOf_15 : decode cX5_mayOf 15 = .ok (.aload_n 0, 1) := by decide +kernel
theorem dX5_mayOf_16 : decode cX5_mayOf 16 = .ok (.getfield 29, 3) := by decide +kernel
theorem dX5_mayOf_19 : decode cX5_mayOf 19 = .ok (.iload_n 1, 1) := by decide +kernel
theorem dX5_mayOf_20 : decode cX5_mayOf 20 = .ok (.iaload, 1) := by decide +kernel
theorem dX5_mayOf_21 : decode cX5_mayOf 21 = .ok (.iconst 4, 1) := by decide +kernel
theorem dX5_mayOf_22 : decode cX5_mayOf 22 = .ok (.if_icmp .eq 14, 3) := by decide +kernel
theorem dX5_mayOf_25 : decode cX5_mayOf 25 = .ok (.iload_n 2, 1) := by decide +kernel
theorem dX5_mayOf_26 : decode cX5_mayOf 26 = .ok (.iconst 1, 1) := by decide +kernel
theorem dX5_mayOf_27 : decode cX5_mayOf 27 = .ok (.aload_n 0, 1) := by decide +kernel
theorem dX5_mayOf_28 : decode cX5_mayOf 28 = .ok (.getfield 29, 3) := by decide +kernel
theorem dX5_mayOf_31 : decode cX5_mayOf 31 = .ok (.iload_n 1, 1) := by decide +kernel
theorem dX5_mayOf_32 : decode cX5_mayOf 32 = .ok (.iaload, 1) := by decide +kernel
theorem dX5_mayOf_33 : decode cX5_mayOf 33 = .ok (.ishl, 1) := by decide +kernel
theorem dX5_mayOf_34 : decode cX5_mayOf 34 = .ok (.ior, 1) := by decide +kernel
theorem dX5_mayOf_35 : decode cX5_mayOf 35 = .ok (.istore_n 2, 1) := by decide +kernel
theorem dX5_mayOf_36 : decode cX5_mayOf 36 = .ok (.iinc 3 1, 3) := by decide +kernel
theorem dX5_mayOf_39 : decode cX5_mayOf 39 = .ok (.goto (-35), 3) := by decide +kernel
theorem dX5_mayOf_42 : decode cX5_mayOf 42 = .ok (.iload_n 2, 1) := by decide +kernel
theorem dX5_mayOf_43 : decode cX5_mayOf 43 = .ok (.ireturn, 1) := by decide +kernel
set_option maxRecDepth 20000 in
theorem ggX5_setsThatLetOut_X5_settleBy : GoodIn wsX5_setsThatLetOut wsX5_settleBy := goodIn_r _ [6, 7, 8, 9, 10, 5, 11, 12, 13, 14, 15, 16, 1, 17, 18, 19, 20, 21, 22, 23, 24, 25, 26, 27, 28, 29, 30, 31, 32, 33, 34, 35, 36, 37, 38, 39, 40, 41, 42, 43, 44, 45, 46, 47, 48, 49, 50, 51, 52, 53, 54, 55, 56, 57, 58, 59, 60, 61, 62, 63, 64, 65, 66, 67, 68, 69, 70, 71, 72, 73] (by decide +kernel) (by decide +kernel)
set_option maxRecDepth 20000 in
theorem gX5_setsThatLetOut_X5_settleBy : GoodIn wsX5_setsThatLetOut (wsV RX5 107 RX5 yX5_settleBy wsX5_settleBy) := goodIn_app (goodIn_of _ (by decide +kernel)) ggX5_setsThatLetOut_X5_settleBy
theorem dX5_setsThatLetOut_0 : decode cX5_setsThatLetOut 0 = .ok (.iconst 0, 1) := by decide +kernel
theorem dX5_setsThatLetOut_1 : decode cX5_setsThatLetOut 1 = .ok (.istore_n 3, 1) := by decide +kernel
theorem dX5_setsThatLetOut_2 : decode cX5_setsThatLetOut 2 = .ok (.iconst 0, 1) := by decide +kernel
theorem dX5_setsThatLetOut_3 : decode cX5_setsThatLetOut 3 = .ok (.istore 4, 2) := by decide +kernel
theorem dX5_setsThatLetOut_5 : decode cX5_setsThatLetOut 5 = .ok (.iload 4, 2) := by decide +kernel
theorem dX5_setsThatLetOut_7 : decode cX5_setsThatLetOut 7 = .ok (.bipush 16, 2) := by decide +kernel
theorem dX5_setsThatLetOut_9 : decode cX5_setsThatLetOut 9 = .ok (.if_icmp .ge 28, 3) := by decide +kernel
theorem dX5_setsThatLetOut_12 : decode cX5_setsThatLetOut 12 = .ok (.aload_n 0, 1) := by decide +kernel
theorem dX5_setsThatLetOut_13 : decode cX5_setsThatLetOut 13 = .ok (.iload 4, 2) := by decide +kernel
theorem dX5_setsThatLetOut_15 : decode cX5_setsThatLetOut 15 = .ok (.invokevirtual 107, 3) := by decide +kernel
theorem dX5_setsThatLetOut_18 : decode cX5_setsThatLetOut 18 = .ok (.aload_n 0, 1) := by decide +kernel
theorem dX5_setsThatLetOut_19 : decode cX5_setsThatLetOut 19 = .ok (.getfield 29, 3) := by decide +kernel
theorem dX5_setsThatLetOut_22 : decode cX5_setsThatLetOut 22 = .ok (.iload_n 1, 1) := by decide +kernel
theorem dX5_setsThatLetOut_23 : decode cX5_setsThatLetOut 23 = .ok (.iaload, 1) := by decide +kernel
theorem dX5_setsThatLetOut_24 : decode cX5_setsThatLetOut 24 = .ok (.iload_n 2, 1) := by decide +kernel
theorem dX5_setsThatLetOut_25 : decode cX5_setsThatLetOut 25 = .ok (.if_icmp .ne 6, 3) := by decide +kernel
theorem dX5_setsThatLetOut_28 : decode cX5_setsThatLetOut 28 = .ok (.iinc 3 1, 3) := by decide +kernel
theorem dX5_setsThatLetOut_31 : decode cX5_setsThatLetOut 31 = .ok (.iinc 4 1, 3) := by decide +kernel
theorem dX5_setsThatLetOut_34 : decode cX5_setsThatLetOut 34 = .ok (.goto (-29), 3) := by decide +kernel
theorem dX5_setsThatLetOut_37 : decode cX5_setsThatLetOut 37 = .ok (.iload_n 3, 1) := by decide +kernel
theorem dX5_setsThatLetOut_38 : decode cX5_setsThatLetOut 38 = .ok (.ireturn, 1) := by decide +kernel
set_option maxRecDepth 20000 in
theorem ggX5_plugsOf_X5_fewestPlugs : GoodIn wsX5_plugsOf wsX5_fewestPlugs := goodIn_r _ [5, 6, 7, 8, 9, 10, 11, 12, 4, 13, 14, 15, 16, 17, 18, 19, 20, 21, 22, 23, 24, 25, 26, 27, 28, 29, 30, 31, 32, 33, 34, 35, 36, 37, 38, 39, 40, 41, 42, 43, 44, 45, 46, 47, 48, 49, 50, 51, 52, 53, 54, 1, 2, 3, 55, 56, 57, 58, 59, 60, 61, 62, 63, 64, 65, 66, 67, 68, 69] (by decide +kernel) (by decide +kernel)
set_option maxRecDepth 20000 in
theorem gX5_plugsOf_X5_fewestPlugs : GoodIn wsX5_plugsOf (wsV RX5 110 RX5 yX5_fewestPlugs wsX5_fewestPlugs) := goodIn_app (goodIn_of _ (by decide +kernel)) ggX5_plugsOf_X5_fewestPlugs
theorem dX5_plugsOf_0 : decode cX5_plugsOf 0 = .ok (.bipush 6, 2) := by decide +kernel
theorem dX5_plugsOf_2 : decode cX5_plugsOf 2 = .ok (.istore_n 2, 1) := by decide +kernel
theorem dX5_plugsOf_3 : decode cX5_plugsOf 3 = .ok (.aload_n 0, 1) := by decide +kernel
theorem dX5_plugsOf_4 : decode cX5_plugsOf 4 = .ok (.iload_n 1, 1) := by decide +kernel
theorem dX5_plugsOf_5 : decode cX5_plugsOf 5 = .ok (.iconst 0, 1) := by decide +kernel
theorem dX5_plugsOf_6 : decode cX5_plugsOf 6 = .ok (.iconst 0, 1) := by decide +kernel
theorem dX5_plugsOf_7 : decode cX5_plugsOf 7 = .ok (.iload_n 2, 1) := by decide +kernel
theorem dX5_plugsOf_8 : decode cX5_plugsOf 8 = .ok (.invokevirtual 110, 3) := by decide +kernel
theorem dX5_plugsOf_11 : decode cX5_plugsOf 11 = .ok (.istore_n 3, 1) := by decide +kernel
theorem dX5_plugsOf_12 : decode cX5_plugsOf 12 = .ok (.iload_n 3, 1) := by decide +kernel
theorem dX5_plugsOf_13 : decode cX5_plugsOf 13 = .ok (.iload_n 2, 1) := by decide +kernel
theorem dX5_plugsOf_14 : decode cX5_plugsOf 14 = .ok (.if_icmp .ne 8, 3) := by decide +kernel
theorem dX5_plugsOf_17 : decode cX5_plugsOf 17 = .ok (.bipush (-9), 2) := by decide +kernel
theorem dX5_plugsOf_19 : decode cX5_plugsOf 19 = .ok (.goto 4, 3) := by decide +kernel
theorem dX5_plugsOf_22 : decode cX5_plugsOf 22 = .ok (.iload_n 3, 1) := by decide +kernel
theorem dX5_plugsOf_23 : decode cX5_plugsOf 23 = .ok (.ireturn, 1) := by decide +kernel
set_option maxRecDepth 20000 in
theorem ggX5_fewestPlugs_X5_settle : GoodIn wsX5_fewestPlugs wsX5_settle := goodIn_r _ [9, 1, 10, 11, 12, 3, 2, 13, 14, 15, 16, 17, 18, 19, 20, 21, 22, 23, 24, 25, 26, 27, 28, 29, 30, 31, 8, 32, 33, 34, 35, 36, 37, 38, 39, 40, 41, 42, 43, 44, 45, 46, 47, 48, 49, 50, 4, 54, 55, 56, 57, 58, 59, 60, 61, 62, 63, 64, 65, 66, 67, 68] (by decide +kernel) (by decide +kernel)
set_option maxRecDepth 20000 in
theorem gX5_fewestPlugs_X5_settle : GoodIn wsX5_fewestPlugs (wsV RX5 59 RX5 yX5_settle wsX5_settle) := goodIn_app (goodIn_of _ (by decide +kernel)) ggX5_fewestPlugs_X5_settle
set_option maxRecDepth 20000 in
theorem ggX5_fewestPlugs_X5_fewestPlugs : GoodIn wsX5_fewestPlugs wsX5_fewestPlugs := goodIn_r _ [0, 1, 2, 3, 4, 5, 6, 7, 8, 9, 10, 11, 12, 13, 14, 15, 16, 17, 18, 19, 20, 21, 22, 23, 24, 25, 26, 27, 28, 29, 30, 31, 32, 33, 34, 35, 36, 37, 38, 39, 40, 41, 42, 43, 44, 45, 46, 47, 48, 49, 50, 51, 52, 53, 54, 55, 56, 57, 58, 59, 60, 61, 62, 63, 64, 65, 66, 67, 68] (by decide +kernel) (by decide +kernel)
set_option maxRecDepth 20000 in
theorem gX5_fewestPlugs_X5_fewestPlugs : GoodIn wsX5_fewestPlugs (wsV RX5 110 RX5 yX5_fewestPlugs wsX5_fewestPlugs) := goodIn_app (goodIn_of _ (by decide +kernel)) ggX5_fewestPlugs_X5_fewestPlugs
theorem dX5_fewestPlugs_0 : decode cX5_fewestPlugs 0 = .ok (.iload_n 3, 1) := by decide +kernel
theorem dX5_fewestPlugs_1 : decode cX5_fewestPlugs 1 = .ok (.iload 4, 2) := by decide +kernel
theorem dX5_fewestPlugs_3 : decode cX5_fewestPlugs 3 = .ok (.if_icmp .lt 6, 3) := by decide +kernel
theorem dX5_fewestPlugs_6 : decode cX5_fewestPlugs 6 = .ok (.iload 4, 2) := by decide +kernel
theorem dX5_fewestPlugs_8 : decode cX5_fewestPlugs 8 = .ok (.ireturn, 1) := by decide +kernel
theorem dX5_fewestPlugs_9 : decode cX5_fewestPlugs 9 = .ok (.iload_n 2, 1) := by decide +kernel
theorem dX5_fewestPlugs_10 : decode cX5_fewestPlugs 10 = .ok (.iload_n 1, 1) := by decide +kernel
theorem dX5_fewestPlugs_11 : decode cX5_fewestPlugs 11 = .ok (.if_icmp .gt 8, 3) := by decide +kernel
theorem dX5_fewestPlugs_14 : decode cX5_fewestPlugs 14 = .ok (.iload_n 2, 1) := by decide +kernel
theorem dX5_fewestPlugs_15 : decode cX5_fewestPlugs 15 = .ok (.iconst 5, 1) := by decide +kernel
theorem dX5_fewestPlugs_16 : decode cX5_fewestPlugs 16 = .ok (.if_icmp .lt 20, 3) := by decide +kernel
theorem dX5_fewestPlugs_19 : decode cX5_fewestPlugs 19 = .ok (.aload_n 0, 1) := by decide +kernel
theorem dX5_fewestPlugs_20 : decode cX5_fewestPlugs 20 = .ok (.getfield 29, 3) := by decide +kernel
theorem dX5_fewestPlugs_23 : decode cX5_fewestPlugs 23 = .ok (.iload_n 1, 1) := by decide +kernel
theorem dX5_fewestPlugs_24 : decode cX5_fewestPlugs 24 = .ok (.iaload, 1) := by decide +kernel
theorem dX5_fewestPlugs_25 : decode cX5_fewestPlugs 25 = .ok (.iconst 4, 1) := by decide +kernel
theorem dX5_fewestPlugs_26 : decode cX5_fewestPlugs 26 = .ok (.if_icmp .ne 7, 3) := by decide +kernel
theorem dX5_fewestPlugs_29 : decode cX5_fewestPlugs 29 = .ok (.iload_n 3, 1) := by decide +kernel
theorem dX5_fewestPlugs_30 : decode cX5_fewestPlugs 30 = .ok (.goto 5, 3) := by decide +kernel
theorem dX5_fewestPlugs_33 : decode cX5_fewestPlugs 33 = .ok (.iload 4, 2) := by decide +kernel
theorem dX5_fewestPlugs_35 : decode cX5_fewestPlugs 35 = .ok (.ireturn, 1) := by decide +kernel
theorem dX5_fewestPlugs_36 : decode cX5_fewestPlugs 36 = .ok (.aload_n 0, 1) := by decide +kernel
theorem dX5_fewestPlugs_37 : decode cX5_fewestPlugs 37 = .ok (.getfield 18, 3) := by decide +kernel
theorem dX5_fewestPlugs_40 : decode cX5_fewestPlugs 40 = .ok (.iload_n 2, 1) := by decide +kernel
theorem dX5_fewestPlugs_41 : decode cX5_fewestPlugs 41 = .ok (.aload_n 0, 1) := by decide +kernel
theorem dX5_fewestPlugs_42 : decode cX5_fewestPlugs 42 = .ok (.getfield 12, 3) := by decide +kernel
theorem dX5_fewestPlugs_45 : decode cX5_fewestPlugs 45 = .ok (.getfield 44, 3) := by decide +kernel
theorem dX5_fewestPlugs_48 : decode cX5_fewestPlugs 48 = .ok (.iload_n 2, 1) := by decide +kernel
theorem dX5_fewestPlugs_49 : decode cX5_fewestPlugs 49 = .ok (.iaload, 1) := by decide +kernel
theorem dX5_fewestPlugs_50 : decode cX5_fewestPlugs 50 = .ok (.iastore, 1) := by decide +kernel
theorem dX5_fewestPlugs_51 : decode cX5_fewestPlugs 51 = .ok (.aload_n 0, 1) := by decide +kernel
theorem dX5_fewestPlugs_52 : decode cX5_fewestPlugs 52 = .ok (.getfield 22, 3) := by decide +kernel
theorem dX5_fewestPlugs_55 : decode cX5_fewestPlugs 55 = .ok (.iload_n 2, 1) := by decide +kernel
theorem dX5_fewestPlugs_56 : decode cX5_fewestPlugs 56 = .ok (.aload_n 0, 1) := by decide +kernel
theorem dX5_fewestPlugs_57 : decode cX5_fewestPlugs 57 = .ok (.getfield 12, 3) := by decide +kernel
theorem dX5_fewestPlugs_60 : decode cX5_fewestPlugs 60 = .ok (.getfield 51, 3) := by decide +kernel
theorem dX5_fewestPlugs_63 : decode cX5_fewestPlugs 63 = .ok (.iload_n 2, 1) := by decide +kernel
theorem dX5_fewestPlugs_64 : decode cX5_fewestPlugs 64 = .ok (.iaload, 1) := by decide +kernel
theorem dX5_fewestPlugs_65 : decode cX5_fewestPlugs 65 = .ok (.iastore, 1) := by decide +kernel
theorem dX5_fewestPlugs_66 : decode cX5_fewestPlugs 66 = .ok (.aload_n 0, 1) := by decide +kernel
theorem dX5_fewestPlugs_67 : decode cX5_fewestPlugs 67 = .ok (.iload_n 2, 1) := by decide +kernel
theorem dX5_fewestPlugs_68 : decode cX5_fewestPlugs 68 = .ok (.invokevirtual 59, 3) := by decide +kernel
theorem dX5_fewestPlugs_71 : decode cX5_fewestPlugs 71 = .ok (.iconst 1, 1) := by decide +kernel
theorem dX5_fewestPlugs_72 : decode cX5_fewestPlugs 72 = .ok (.aload_n 0, 1) := by decide +kernel
theorem dX5_fewestPlugs_73 : decode cX5_fewestPlugs 73 = .ok (.getfield 29, 3) := by decide +kernel
theorem dX5_fewestPlugs_76 : decode cX5_fewestPlugs 76 = .ok (.iload_n 2, 1) := by decide +kernel
theorem dX5_fewestPlugs_77 : decode cX5_fewestPlugs 77 = .ok (.iaload, 1) := by decide +kernel
theorem dX5_fewestPlugs_78 : decode cX5_fewestPlugs 78 = .ok (.ishl, 1) := by decide +kernel
theorem dX5_fewestPlugs_79 : decode cX5_fewestPlugs 79 = .ok (.istore 5, 2) := by decide +kernel
theorem dX5_fewestPlugs_81 : decode cX5_fewestPlugs 81 = .ok (.aload_n 0, 1) := by decide +kernel
theorem dX5_fewestPlugs_82 : decode cX5_fewestPlugs 82 = .ok (.iload_n 1, 1) := by decide +kernel
theorem dX5_fewestPlugs_83 : decode cX5_fewestPlugs 83 = .ok (.iload_n 2, 1) := by decide +kernel
theorem dX5_fewestPlugs_84 : decode cX5_fewestPlugs 84 = .ok (.iconst 1, 1) := by decide +kernel
theorem dX5_fewestPlugs_85 : decode cX5_fewestPlugs 85 = .ok (.iadd, 1) := by decide +kernel
theorem dX5_fewestPlugs_86 : decode cX5_fewestPlugs 86 = .ok (.iload_n 3, 1) := by decide +kernel
theorem dX5_fewestPlugs_87 : decode cX5_fewestPlugs 87 = .ok (.iload 4, 2) := by decide +kernel
theorem dX5_fewestPlugs_89 : decode cX5_fewestPlugs 89 = .ok (.invokevirtual 110, 3) := by decide +kernel
theorem dX5_fewestPlugs_92 : decode cX5_fewestPlugs 92 = .ok (.istore 6, 2) := by decide +kernel
theorem dX5_fewestPlugs_94 : decode cX5_fewestPlugs 94 = .ok (.aload_n 0, 1) := by decide +kernel
theorem dX5_fewestPlugs_95 : decode cX5_fewestPlugs 95 = .ok (.getfield 18, 3) := by decide +kernel
theorem dX5_fewestPlugs_98 : decode cX5_fewestPlugs 98 = .ok (.iload_n 2, 1) := by decide +kernel
theorem dX5_fewestPlugs_99 : decode cX5_fewestPlugs 99 = .ok (.iconst 2, 1) := by decide +kernel
theorem dX5_fewestPlugs_100 : decode cX5_fewestPlugs 100 = .ok (.iastore, 1) := by decide +kernel
theorem dX5_fewestPlugs_101 : decode cX5_fewestPlugs 101 = .ok (.iconst 0, 1) := by decide +kernel
theorem dX5_fewestPlugs_102 : decode cX5_fewestPlugs 102 = .ok (.istore 7, 2) := by decide +kernel
theorem dX5_fewestPlugs_104 : decode cX5_fewestPlugs 104 = .ok (.iload 7, 2) := by decide +kernel
theorem dX5_fewestPlugs_106 : decode cX5_fewestPlugs 106 = .ok (.iconst 4, 1) := by decide +kernel
theorem dX5_fewestPlugs_107 : decode cX5_fewestPlugs 107 = .ok (.if_icmp .ge 64, 3) := by decide +kernel
theorem dX5_fewestPlugs_110 : decode cX5_fewestPlugs 110 = .ok (.aload_n 0, 1) := by decide +kernel
theorem dX5_fewestPlugs_111 : decode cX5_fewestPlugs 111 = .ok (.getfield 22, 3) := by decide +kernel
theorem dX5_fewestPlugs_114 : decode cX5_fewestPlugs 114 = .ok (.iload_n 2, 1) := by decide +kernel
theorem dX5_fewestPlugs_115 : decode cX5_fewestPlugs 115 = .ok (.iload 7, 2) := by decide +kernel
theorem dX5_fewestPlugs_117 : decode cX5_fewestPlugs 117 = .ok (.iastore, 1) := by decide +kernel
theorem dX5_fewestPlugs_118 : decode cX5_fewestPlugs 118 = .ok (.aload_n 0, 1) := by decide +kernel
theorem dX5_fewestPlugs_119 : decode cX5_fewestPlugs 119 = .ok (.iload_n 2, 1) := by decide +kernel
theorem dX5_fewestPlugs_120 : decode cX5_fewestPlugs 120 = .ok (.invokevirtual 59, 3) := by decide +kernel
theorem dX5_fewestPlugs_123 : decode cX5_fewestPlugs 123 = .ok (.iload 5, 2) := by decide +kernel
theorem dX5_fewestPlugs_125 : decode cX5_fewestPlugs 125 = .ok (.aload_n 0, 1) := by decide +kernel
theorem dX5_fewestPlugs_126 : decode cX5_fewestPlugs 126 = .ok (.getfield 29, 3) := by decide +kernel
theorem dX5_fewestPlugs_129 : decode cX5_fewestPlugs 129 = .ok (.iload_n 2, 1) := by decide +kernel
theorem dX5_fewestPlugs_130 : decode cX5_fewestPlugs 130 = .ok (.iaload, 1) := by decide +kernel
theorem dX5_fewestPlugs_131 : decode cX5_fewestPlugs 131 = .ok (.ishr, 1) := by decide +kernel
theorem dX5_fewestPlugs_132 : decode cX5_fewestPlugs 132 = .ok (.iconst 1, 1) := by decide +kernel
theorem dX5_fewestPlugs_133 : decode cX5_fewestPlugs 133 = .ok (.iand, 1) := by decide +kernel
theorem dX5_fewestPlugs_134 : decode cX5_fewestPlugs 134 = .ok (.ifCond .ne 31, 3) := by decide +kernel
theorem dX5_fewestPlugs_137 : decode cX5_fewestPlugs 137 = .ok (.iload 5, 2) := by decide +kernel
theorem dX5_fewestPlugs_139 : decode cX5_fewestPlugs 139 = .ok (.iconst 1, 1) := by decide +kernel
theorem dX5_fewestPlugs_140 : decode cX5_fewestPlugs 140 = .ok (.aload_n 0, 1) := by decide +kernel
theorem dX5_fewestPlugs_141 : decode cX5_fewestPlugs 141 = .ok (.getfield 29, 3) := by decide +kernel
theorem dX5_fewestPlugs_144 : decode cX5_fewestPlugs 144 = .ok (.iload_n 2, 1) := by decide +kernel
theorem dX5_fewestPlugs_145 : decode cX5_fewestPlugs 145 = .ok (.iaload, 1) := by decide +kernel
theorem dX5_fewestPlugs_146 : decode cX5_fewestPlugs 146 = .ok (.ishl, 1) := by decide +kernel
theorem dX5_fewestPlugs_147 : decode cX5_fewestPlugs 147 = .ok (.ior, 1) := by decide +kernel
theorem dX5_fewestPlugs_148 : decode cX5_fewestPlugs 148 = .ok (.istore 5, 2) := by decide +kernel
theorem dX5_fewestPlugs_150 : decode cX5_fewestPlugs 150 = .ok (.aload_n 0, 1) := by decide +kernel
theorem dX5_fewestPlugs_151 : decode cX5_fewestPlugs 151 = .ok (.iload_n 1, 1) := by decide +kernel
theorem dX5_fewestPlugs_152 : decode cX5_fewestPlugs 152 = .ok (.iload_n 2, 1) := by decide +kernel
theorem dX5_fewestPlugs_153 : decode cX5_fewestPlugs 153 = .ok (.iconst 1, 1) := by decide +kernel
theorem dX5_fewestPlugs_154 : decode cX5_fewestPlugs 154 = .ok (.iadd, 1) := by decide +kernel
theorem dX5_fewestPlugs_155 : decode cX5_fewestPlugs 155 = .ok (.iload_n 3, 1) := by decide +kernel
theorem dX5_fewestPlugs_156 : decode cX5_fewestPlugs 156 = .ok (.iconst 1, 1) := by decide +kernel
theorem dX5_fewestPlugs_157 : decode cX5_fewestPlugs 157 = .ok (.iadd, 1) := by decide +kernel
theorem dX5_fewestPlugs_158 : decode cX5_fewestPlugs 158 = .ok (.iload 6, 2) := by decide +kernel
theorem dX5_fewestPlugs_160 : decode cX5_fewestPlugs 160 = .ok (.invokevirtual 110, 3) := by decide +kernel
theorem dX5_fewestPlugs_163 : decode cX5_fewestPlugs 163 = .ok (.istore 6, 2) := by decide +kernel
theorem dX5_fewestPlugs_165 : decode cX5_fewestPlugs 165 = .ok (.iinc 7 1, 3) := by decide +kernel
theorem dX5_fewestPlugs_168 : decode cX5_fewestPlugs 168 = .ok (.goto (-64), 3) := by decide +kernel
theorem dX5_fewestPlugs_171 : decode cX5_fewestPlugs 171 = .ok (.iload 6, 2) := by decide +kernel
theorem dX5_fewestPlugs_173 : decode cX5_fewestPlugs 173 = .ok (.ireturn, 1) := by decide +kernel
set_option maxRecDepth 20000 in
theorem ggX6_init_X4_init : GoodIn wsX6_init wsX4_init := goodIn_r _ [28, 29, 2, 3, 30, 31, 32, 33, 34, 35, 36, 37, 38, 39, 40, 41, 42, 43, 44, 104, 105, 106, 107, 108, 109, 84, 85] (by decide +kernel) (by decide +kernel)
set_option maxRecDepth 20000 in
theorem gX6_init_X4_init_n19 : GoodIn wsX6_init (wsX4_init) := ggX6_init_X4_init
set_option maxRecDepth 20000 in
theorem ggX6_init_X5_init : GoodIn wsX6_init wsX5_init := goodIn_r _ [46, 47, 2, 3, 48, 31, 32, 49, 38, 50, 51, 52, 53, 54, 55, 56, 57, 35, 36, 37, 39, 40, 41, 42, 43, 44, 104, 105, 106, 107, 108, 109, 86, 87, 88, 89, 90, 91, 92, 93, 94] (by decide +kernel) (by decide +kernel)
set_option maxRecDepth 20000 in
theorem gX6_init_X5_init_n26 : GoodIn wsX6_init (wsX5_init) := ggX6_init_X5_init
set_option maxRecDepth 20000 in
theorem ggX6_init_X0_init : GoodIn wsX6_init wsX0_init := goodIn_r _ [59, 60, 2, 3, 61, 62, 63, 95, 96, 97] (by decide +kernel) (by decide +kernel)
set_option maxRecDepth 20000 in
theorem gX6_init_X0_init_n40 : GoodIn wsX6_init (wsX0_init) := ggX6_init_X0_init
set_option maxRecDepth 20000 in
theorem ggX6_init_X2_init : GoodIn wsX6_init wsX2_init := goodIn_r _ [65, 66, 2, 3, 38, 67, 68, 69, 98, 99, 100] (by decide +kernel) (by decide +kernel)
set_option maxRecDepth 20000 in
theorem gX6_init_X2_init_n47 : GoodIn wsX6_init (wsX2_init) := ggX6_init_X2_init
set_option maxRecDepth 20000 in
theorem ggX6_init_X3_init : GoodIn wsX6_init wsX3_init := goodIn_r _ [71, 72, 2, 3, 38, 73, 74, 75, 101, 102, 103] (by decide +kernel) (by decide +kernel)
set_option maxRecDepth 20000 in
theorem gX6_init_X3_init_n59 : GoodIn wsX6_init (wsX3_init) := ggX6_init_X3_init
theorem dX6_init_0 : decode cX6_init 0 = .ok (.aload_n 0, 1) := by decide +kernel
theorem dX6_init_1 : decode cX6_init 1 = .ok (.invokespecial 3, 3) := by decide +kernel
theorem dX6_init_4 : decode cX6_init 4 = .ok (.aload_n 0, 1) := by decide +kernel
theorem dX6_init_5 : decode cX6_init 5 = .ok (.iconst 4, 1) := by decide +kernel
theorem dX6_init_6 : decode cX6_init 6 = .ok (.anewarray 11, 3) := by decide +kernel
theorem dX6_init_9 : decode cX6_init 9 = .ok (.putfield 13, 3) := by decide +kernel
theorem dX6_init_12 : decode cX6_init 12 = .ok (.aload_n 0, 1) := by decide +kernel
theorem dX6_init_13 : decode cX6_init 13 = .ok (.new 17, 3) := by decide +kernel
theorem dX6_init_16 : decode cX6_init 16 = .ok (.dup, 1) := by decide +kernel
theorem dX6_init_17 : decode cX6_init 17 = .ok (.invokespecial 19, 3) := by decide +kernel
theorem dX6_init_20 : decode cX6_init 20 = .ok (.putfield 20, 3) := by decide +kernel
theorem dX6_init_23 : decode cX6_init 23 = .ok (.aload_n 0, 1) := by decide +kernel
theorem dX6_init_24 : decode cX6_init 24 = .ok (.new 24, 3) := by decide +kernel
theorem dX6_init_27 : decode cX6_init 27 = .ok (.dup, 1) := by decide +kernel
theorem dX6_init_28 : decode cX6_init 28 = .ok (.invokespecial 26, 3) := by decide +kernel
theorem dX6_init_31 : decode cX6_init 31 = .ok (.putfield 27, 3) := by decide +kernel
theorem dX6_init_34 : decode cX6_init 34 = .ok (.aload_n 0, 1) := by decide +kernel
theorem dX6_init_35 : decode cX6_init 35 = .ok (.aload_n 0, 1) := by decide +kernel
theorem dX6_init_36 : decode cX6_init 36 = .ok (.getfield 27, 3) := by decide +kernel
theorem dX6_init_39 : decode cX6_init 39 = .ok (.getfield 31, 3) := by decide +kernel
theorem dX6_init_42 : decode cX6_init 42 = .ok (.putfield 35, 3) := by decide +kernel
theorem dX6_init_45 : decode cX6_init 45 = .ok (.aload_n 0, 1) := by decide +kernel
theorem dX6_init_46 : decode cX6_init 46 = .ok (.new 38, 3) := by decide +kernel
theorem dX6_init_49 : decode cX6_init 49 = .ok (.dup, 1) := by decide +kernel
theorem dX6_init_50 : decode cX6_init 50 = .ok (.invokespecial 40, 3) := by decide +kernel
theorem dX6_init_53 : decode cX6_init 53 = .ok (.putfield 41, 3) := by decide +kernel
theorem dX6_init_56 : decode cX6_init 56 = .ok (.aload_n 0, 1) := by decide +kernel
theorem dX6_init_57 : decode cX6_init 57 = .ok (.new 45, 3) := by decide +kernel
theorem dX6_init_60 : decode cX6_init 60 = .ok (.dup, 1) := by decide +kernel
theorem dX6_init_61 : decode cX6_init 61 = .ok (.invokespecial 47, 3) := by decide +kernel
theorem dX6_init_64 : decode cX6_init 64 = .ok (.putfield 48, 3) := by decide +kernel
theorem dX6_init_67 : decode cX6_init 67 = .ok (.aload_n 0, 1) := by decide +kernel
theorem dX6_init_68 : decode cX6_init 68 = .ok (.iconst 0, 1) := by decide +kernel
theorem dX6_init_69 : decode cX6_init 69 = .ok (.putfield 52, 3) := by decide +kernel
theorem dX6_init_72 : decode cX6_init 72 = .ok (.aload_n 0, 1) := by decide +kernel
theorem dX6_init_73 : decode cX6_init 73 = .ok (.iconst 0, 1) := by decide +kernel
theorem dX6_init_74 : decode cX6_init 74 = .ok (.putfield 56, 3) := by decide +kernel
theorem dX6_init_77 : decode cX6_init 77 = .ok (.iconst 0, 1) := by decide +kernel
theorem dX6_init_78 : decode cX6_init 78 = .ok (.istore_n 1, 1) := by decide +kernel
theorem dX6_init_79 : decode cX6_init 79 = .ok (.iload_n 1, 1) := by decide +kernel
theorem dX6_init_80 : decode cX6_init 80 = .ok (.iconst 4, 1) := by decide +kernel
theorem dX6_init_81 : decode cX6_init 81 = .ok (.if_icmp .ge 22, 3) := by decide +kernel
theorem dX6_init_84 : decode cX6_init 84 = .ok (.aload_n 0, 1) := by decide +kernel
theorem dX6_init_85 : decode cX6_init 85 = .ok (.getfield 13, 3) := by decide +kernel
theorem dX6_init_88 : decode cX6_init 88 = .ok (.iload_n 1, 1) := by decide +kernel
theorem dX6_init_89 : decode cX6_init 89 = .ok (.new 11, 3) := by decide +kernel
theorem dX6_init_92 : decode cX6_init 92 = .ok (.dup, 1) := by decide +kernel
theorem dX6_init_93 : decode cX6_init 93 = .ok (.invokespecial 59, 3) := by decide +kernel
theorem dX6_init_96 : decode cX6_init 96 = .ok (.aastore, 1) := by decide +kernel
theorem dX6_init_97 : decode cX6_init 97 = .ok (.iinc 1 1, 3) := by decide +kernel
theorem dX6_init_100 : decode cX6_init 100 = .ok (.goto (-21), 3) := by decide +kernel
theorem dX6_init_103 : decode cX6_init 103 = .ok (.return_, 1) := by decide +kernel
set_option maxRecDepth 20000 in
theorem ggX6_program_X6_isSheet : GoodIn wsX6_program wsX6_isSheet := goodIn_r _ [9] (by decide +kernel) (by decide +kernel)
set_option maxRecDepth 20000 in
theorem gX6_program_X6_isSheet : GoodIn wsX6_program (va_wsS RX6 60 yX6_isSheet wsX6_isSheet) := goodIn_app (goodIn_of _ (by decide +kernel)) ggX6_program_X6_isSheet
set_option maxRecDepth 20000 in
theorem ggX6_program_X6_isLane : GoodIn wsX6_program wsX6_isLane := goodIn_r _ [12] (by decide +kernel) (by decide +kernel)
set_option maxRecDepth 20000 in
theorem gX6_program_X6_isLane : GoodIn wsX6_program (va_wsS RX6 64 yX6_isLane wsX6_isLane) := goodIn_app (goodIn_of _ (by decide +kernel)) ggX6_program_X6_isLane
set_option maxRecDepth 20000 in
theorem ggX6_program_X3_faultOfTaking : GoodIn wsX6_program wsX3_faultOfTaking := goodIn_r _ [17, 18, 19, 20, 21, 16, 22, 23, 24, 25, 26, 27, 128, 129, 130] (by decide +kernel) (by decide +kernel)
set_option maxRecDepth 20000 in
theorem gX6_program_X3_faultOfTaking : GoodIn wsX6_program (wsV RX6 67 RX3 yX3_faultOfTaking wsX3_faultOfTaking) := goodIn_app (goodIn_of _ (by decide +kernel)) ggX6_program_X3_faultOfTaking
set_option maxRecDepth 20000 in
theorem ggX6_program_X6_faulted : GoodIn wsX6_program wsX6_faulted := goodIn_r _ [31, 1, 109, 110, 111, 112, 113, 114, 115, 116] (by decide +kernel) (by decide +kernel)
set_option maxRecDepth 20000 in
theorem gX6_program_X6_faulted : GoodIn wsX6_program (wsV RX6 71 RX6 yX6_faulted wsX6_faulted) := goodIn_app (goodIn_of _ (by decide +kernel)) ggX6_program_X6_faulted
set_option maxRecDepth 20000 in
theorem ggX6_program_X4_firstFault : GoodIn wsX6_program wsX4_firstFault := goodIn_r _ [36, 37, 38, 39, 40, 41, 42, 43, 44, 45, 46, 47, 48, 16, 49, 50, 23, 24, 25, 26, 27, 51, 52, 53, 35, 54, 55, 56, 57, 58, 59, 60, 61, 62, 63, 64, 65, 66, 67, 68, 69, 70, 71, 72, 73, 74, 75, 76, 77, 78, 79, 80, 81, 82, 83, 84, 85, 86, 87, 88, 117, 118, 122, 123, 124, 125, 126, 127, 128, 129, 130] (by decide +kernel) (by decide +kernel)
set_option maxRecDepth 20000 in
theorem gX6_program_X4_firstFault : GoodIn wsX6_program (wsV RX6 75 RX4 yX4_firstFault wsX4_firstFault) := goodIn_app (goodIn_of _ (by decide +kernel)) ggX6_program_X4_firstFault
set_option maxRecDepth 20000 in
theorem ggX6_program_X1_become : GoodIn wsX6_program wsX1_become := goodIn_r _ [92, 93, 94, 95, 96, 97, 98, 63, 87, 44, 45, 122, 123, 124, 125, 126, 127] (by decide +kernel) (by decide +kernel)
set_option maxRecDepth 20000 in
theorem gX6_program_X1_become : GoodIn wsX6_program (wsV RX6 82 RX1 yX1_become wsX1_become) := goodIn_app (goodIn_of _ (by decide +kernel)) ggX6_program_X1_become
set_option maxRecDepth 20000 in
theorem ggX6_program_X2_takeBack : GoodIn wsX6_program wsX2_takeBack := goodIn_r _ [103, 104, 105, 106, 107, 108, 119, 120, 121] (by decide +kernel) (by decide +kernel)
set_option maxRecDepth 20000 in
theorem gX6_program_X2_takeBack : GoodIn wsX6_program (wsV RX6 91 RX2 yX2_takeBack wsX2_takeBack) := goodIn_app (goodIn_of _ (by decide +kernel)) ggX6_program_X2_takeBack
theorem dX6_program_0 : decode cX6_program 0 = .ok (.aload_n 0, 1) := by decide +kernel
theorem dX6_program_1 : decode cX6_program 1 = .ok (.iconst 0, 1) := by decide +kernel
theorem dX6_program_2 : decode cX6_program 2 = .ok (.putfield 52, 3) := by decide +kernel
theorem dX6_program_5 : decode cX6_program 5 = .ok (.iload_n 1, 1) := by decide +kernel
theorem dX6_program_6 : decode cX6_program 6 = .ok (.invokestatic 60, 3) := by decide +kernel
theorem dX6_program_9 : decode cX6_program 9 = .ok (.ifCond .ne 5, 3) := by decide +kernel
theorem dX6_program_12 : decode cX6_program 12 = .ok (.iconst (-1), 1) := by decide +kernel
theorem dX6_program_13 : decode cX6_program 13 = .ok (.ireturn, 1) := by decide +kernel
theorem dX6_program_14 : decode cX6_program 14 = .ok (.iload_n 2, 1) := by decide +kernel
theorem dX6_program_15 : decode cX6_program 15 = .ok (.invokestatic 64, 3) := by decide +kernel
theorem dX6_program_18 : decode cX6_program 18 = .ok (.ifCond .ne 6, 3) := by decide +kernel
theorem dX6_program_21 : decode cX6_program 21 = .ok (.bipush (-2), 2) := by decide +kernel
theorem dX6_program_23 : decode cX6_program 23 = .ok (.ireturn, 1) := by decide +kernel
theorem dX6_program_24 : decode cX6_program 24 = .ok (.aload_n 0, 1) := by decide +kernel
theorem dX6_program_25 : decode cX6_program 25 = .ok (.getfield 13, 3) := by decide +kernel
theorem dX6_program_28 : decode cX6_program 28 = .ok (.iload_n 1, 1) := by decide +kernel
theorem dX6_program_29 : decode cX6_program 29 = .ok (.aaload, 1) := by decide +kernel
theorem dX6_program_30 : decode cX6_program 30 = .ok (.astore 5, 2) := by decide +kernel
theorem dX6_program_32 : decode cX6_program 32 = .ok (.aload 5, 2) := by decide +kernel
theorem dX6_program_34 : decode cX6_program 34 = .ok (.iload_n 2, 1) := by decide +kernel
theorem dX6_program_35 : decode cX6_program 35 = .ok (.iload_n 3, 1) := by decide +kernel
theorem dX6_program_36 : decode cX6_program 36 = .ok (.iload 4, 2) := by decide +kernel
theorem dX6_program_38 : decode cX6_program 38 = .ok (.invokevirtual 67, 3) := by decide +kernel
theorem dX6_program_41 : decode cX6_program 41 = .ok (.istore 6, 2) := by decide +kernel
theorem dX6_program_43 : decode cX6_program 43 = .ok (.iload 6, 2) := by decide +kernel
theorem dX6_program_45 : decode cX6_program 45 = .ok (.ifCond .eq 10, 3) := by decide +kernel
theorem dX6_program_48 : decode cX6_program 48 = .ok (.aload_n 0, 1) := by decide +kernel
theorem dX6_program_49 : decode cX6_program 49 = .ok (.iload 6, 2) := by decide +kernel
theorem dX6_program_51 : decode cX6_program 51 = .ok (.invokevirtual 71, 3) := by decide +kernel
theorem dX6_program_54 : decode cX6_program 54 = .ok (.ireturn, 1) := by decide +kernel
theorem dX6_program_55 : decode cX6_program 55 = .ok (.aload_n 0, 1) := by decide +kernel
theorem dX6_program_56 : decode cX6_program 56 = .ok (.getfield 20, 3) := by decide +kernel
theorem dX6_program_59 : decode cX6_program 59 = .ok (.aload 5, 2) := by decide +kernel
theorem dX6_program_61 : decode cX6_program 61 = .ok (.iload_n 3, 1) := by decide +kernel
theorem dX6_program_62 : decode cX6_program 62 = .ok (.iload 4, 2) := by decide +kernel
theorem dX6_program_64 : decode cX6_program 64 = .ok (.invokevirtual 75, 3) := by decide +kernel
theorem dX6_program_67 : decode cX6_program 67 = .ok (.istore 7, 2) := by decide +kernel
theorem dX6_program_69 : decode cX6_program 69 = .ok (.iload 7, 2) := by decide +kernel
theorem dX6_program_71 : decode cX6_program 71 = .ok (.iconst (-1), 1) := by decide +kernel
theorem dX6_program_72 : decode cX6_program 72 = .ok (.if_icmp .eq 9, 3) := by decide +kernel
theorem dX6_program_75 : decode cX6_program 75 = .ok (.bipush (-100), 2) := by decide +kernel
theorem dX6_program_77 : decode cX6_program 77 = .ok (.iload 7, 2) := by decide +kernel
theorem dX6_program_79 : decode cX6_program 79 = .ok (.isub, 1) := by decide +kernel
theorem dX6_program_80 : decode cX6_program 80 = .ok (.ireturn, 1) := by decide +kernel
theorem dX6_program_81 : decode cX6_program 81 = .ok (.aload_n 0, 1) := by decide +kernel
theorem dX6_program_82 : decode cX6_program 82 = .ok (.getfield 35, 3) := by decide +kernel
theorem dX6_program_85 : decode cX6_program 85 = .ok (.aload_n 0, 1) := by decide +kernel
theorem dX6_program_86 : decode cX6_program 86 = .ok (.getfield 20, 3) := by decide +kernel
theorem dX6_program_89 : decode cX6_program 89 = .ok (.getfield 79, 3) := by decide +kernel
theorem dX6_program_92 : decode cX6_program 92 = .ok (.invokevirtual 82, 3) := by decide +kernel
theorem dX6_program_95 : decode cX6_program 95 = .ok (.aload_n 0, 1) := by decide +kernel
theorem dX6_program_96 : decode cX6_program 96 = .ok (.getfield 48, 3) := by decide +kernel
theorem dX6_program_99 : decode cX6_program 99 = .ok (.aload_n 0, 1) := by decide +kernel
theorem dX6_program_100 : decode cX6_program 100 = .ok (.getfield 48, 3) := by decide +kernel
theorem dX6_program_103 : decode cX6_program 103 = .ok (.getfield 88, 3) := by decide +kernel
theorem dX6_program_106 : decode cX6_program 106 = .ok (.invokevirtual 91, 3) := by decide +kernel
theorem dX6_program_109 : decode cX6_program 109 = .ok (.aload_n 0, 1) := by decide +kernel
theorem dX6_program_110 : decode cX6_program 110 = .ok (.getfield 35, 3) := by decide +kernel
theorem dX6_program_113 : decode cX6_program 113 = .ok (.getfield 95, 3) := by decide +kernel
theorem dX6_program_116 : decode cX6_program 116 = .ok (.ireturn, 1) := by decide +kernel
set_option maxRecDepth 20000 in
theorem ggX6_ofFunction_X1_has : GoodIn wsX6_ofFunction wsX1_has := goodIn_r _ [7, 8, 91, 92, 93, 94, 95, 96] (by decide +kernel) (by decide +kernel)
set_option maxRecDepth 20000 in
theorem gX6_ofFunction_X1_has : GoodIn wsX6_ofFunction (wsV RX6 96 RX1 yX1_has wsX1_has) := goodIn_app (goodIn_of _ (by decide +kernel)) ggX6_ofFunction_X1_has
set_option maxRecDepth 20000 in
theorem ggX6_ofFunction_X5_begin : GoodIn wsX6_ofFunction wsX5_begin := goodIn_r _ [13, 14, 15, 16, 17, 18, 19, 20, 21, 97, 98, 99, 100, 101, 102, 103, 104, 105, 91, 92, 93, 94, 95, 96] (by decide +kernel) (by decide +kernel)
set_option maxRecDepth 20000 in
theorem gX6_ofFunction_X5_begin : GoodIn wsX6_ofFunction (wsV RX6 109 RX5 yX5_begin wsX5_begin) := goodIn_app (goodIn_of _ (by decide +kernel)) ggX6_ofFunction_X5_begin
set_option maxRecDepth 20000 in
theorem ggX6_ofFunction_X5_rowOf : GoodIn wsX6_ofFunction wsX5_rowOf := goodIn_r _ [25, 26, 27, 28, 29, 12, 30, 14, 15, 20, 31, 32, 33, 6, 34, 35, 36, 37, 38, 39, 40, 41, 4, 5, 7, 8, 42, 97, 98, 99, 100, 101, 102, 103, 104, 105, 91, 92, 93, 94, 95, 96] (by decide +kernel) (by decide +kernel)
set_option maxRecDepth 20000 in
theorem gX6_ofFunction_X5_rowOf : GoodIn wsX6_ofFunction (wsV RX6 112 RX5 yX5_rowOf wsX5_rowOf) := goodIn_app (goodIn_of _ (by decide +kernel)) ggX6_ofFunction_X5_rowOf
set_option maxRecDepth 20000 in
theorem ggX6_ofFunction_X5_mayOf : GoodIn wsX6_ofFunction wsX5_mayOf := goodIn_r _ [46, 47, 48, 49, 50, 12, 51, 21, 52, 53, 54, 55, 14, 56, 57, 58, 59, 60, 61, 62, 15, 31, 32, 33, 6, 34, 35, 36, 37, 38, 39, 40, 41, 4, 5, 7, 8, 63, 64, 65, 66, 42, 67, 68, 69, 70, 71, 72, 73, 74, 75, 76, 77, 78, 79, 80, 81, 82, 20, 97, 98, 99, 100, 101, 102, 103, 104, 105, 91, 92, 93, 94, 95, 96] (by decide +kernel) (by decide +kernel)
set_option maxRecDepth 20000 in
theorem gX6_ofFunction_X5_mayOf : GoodIn wsX6_ofFunction (wsV RX6 115 RX5 yX5_mayOf wsX5_mayOf) := goodIn_app (goodIn_of _ (by decide +kernel)) ggX6_ofFunction_X5_mayOf
theorem dX6_ofFunction_0 : decode cX6_ofFunction 0 = .ok (.aload_n 0, 1) := by decide +kernel
theorem dX6_ofFunction_1 : decode cX6_ofFunction 1 = .ok (.getfield 35, 3) := by decide +kernel
theorem dX6_ofFunction_4 : decode cX6_ofFunction 4 = .ok (.iload_n 1, 1) := by decide +kernel
theorem dX6_ofFunction_5 : decode cX6_ofFunction 5 = .ok (.invokevirtual 96, 3) := by decide +kernel
theorem dX6_ofFunction_8 : decode cX6_ofFunction 8 = .ok (.ifCond .ne 5, 3) := by decide +kernel
theorem dX6_ofFunction_11 : decode cX6_ofFunction 11 = .ok (.iconst (-1), 1) := by decide +kernel
theorem dX6_ofFunction_12 : decode cX6_ofFunction 12 = .ok (.ireturn, 1) := by decide +kernel
theorem dX6_ofFunction_13 : decode cX6_ofFunction 13 = .ok (.iload_n 2, 1) := by decide +kernel
theorem dX6_ofFunction_14 : decode cX6_ofFunction 14 = .ok (.tableswitch 96 0 4 #[34, 44, 54, 64, 80], 34) := by decide +kernel
theorem dX6_ofFunction_48 : decode cX6_ofFunction 48 = .ok (.aload_n 0, 1) := by decide +kernel
theorem dX6_ofFunction_49 : decode cX6_ofFunction 49 = .ok (.getfield 35, 3) := by decide +kernel
theorem dX6_ofFunction_52 : decode cX6_ofFunction 52 = .ok (.getfield 99, 3) := by decide +kernel
theorem dX6_ofFunction_55 : decode cX6_ofFunction 55 = .ok (.iload_n 1, 1) := by decide +kernel
theorem dX6_ofFunction_56 : decode cX6_ofFunction 56 = .ok (.iaload, 1) := by decide +kernel
theorem dX6_ofFunction_57 : decode cX6_ofFunction 57 = .ok (.ireturn, 1) := by decide +kernel
theorem dX6_ofFunction_58 : decode cX6_ofFunction 58 = .ok (.aload_n 0, 1) := by decide +kernel
theorem dX6_ofFunction_59 : decode cX6_ofFunction 59 = .ok (.getfield 35, 3) := by decide +kernel
theorem dX6_ofFunction_62 : decode cX6_ofFunction 62 = .ok (.getfield 103, 3) := by decide +kernel
theorem dX6_ofFunction_65 : decode cX6_ofFunction 65 = .ok (.iload_n 1, 1) := by decide +kernel
theorem dX6_ofFunction_66 : decode cX6_ofFunction 66 = .ok (.iaload, 1) := by decide +kernel
theorem dX6_ofFunction_67 : decode cX6_ofFunction 67 = .ok (.ireturn, 1) := by decide +kernel
theorem dX6_ofFunction_68 : decode cX6_ofFunction 68 = .ok (.aload_n 0, 1) := by decide +kernel
theorem dX6_ofFunction_69 : decode cX6_ofFunction 69 = .ok (.getfield 35, 3) := by decide +kernel
theorem dX6_ofFunction_72 : decode cX6_ofFunction 72 = .ok (.getfield 106, 3) := by decide +kernel
theorem dX6_ofFunction_75 : decode cX6_ofFunction 75 = .ok (.iload_n 1, 1) := by decide +kernel
theorem dX6_ofFunction_76 : decode cX6_ofFunction 76 = .ok (.iaload, 1) := by decide +kernel
theorem dX6_ofFunction_77 : decode cX6_ofFunction 77 = .ok (.ireturn, 1) := by decide +kernel
theorem dX6_ofFunction_78 : decode cX6_ofFunction 78 = .ok (.aload_n 0, 1) := by decide +kernel
theorem dX6_ofFunction_79 : decode cX6_ofFunction 79 = .ok (.getfield 27, 3) := by decide +kernel
theorem dX6_ofFunction_82 : decode cX6_ofFunction 82 = .ok (.invokevirtual 109, 3) := by decide +kernel
theorem dX6_ofFunction_85 : decode cX6_ofFunction 85 = .ok (.aload_n 0, 1) := by decide +kernel
theorem dX6_ofFunction_86 : decode cX6_ofFunction 86 = .ok (.getfield 27, 3) := by decide +kernel
theorem dX6_ofFunction_89 : decode cX6_ofFunction 89 = .ok (.iload_n 1, 1) := by decide +kernel
theorem dX6_ofFunction_90 : decode cX6_ofFunction 90 = .ok (.invokevirtual 112, 3) := by decide +kernel
theorem dX6_ofFunction_93 : decode cX6_ofFunction 93 = .ok (.ireturn, 1) := by decide +kernel
theorem dX6_ofFunction_94 : decode cX6_ofFunction 94 = .ok (.aload_n 0, 1) := by decide +kernel
theorem dX6_ofFunction_95 : decode cX6_ofFunction 95 = .ok (.getfield 27, 3) := by decide +kernel
theorem dX6_ofFunction_98 : decode cX6_ofFunction 98 = .ok (.invokevirtual 109, 3) := by decide +kernel
theorem dX6_ofFunction_101 : decode cX6_ofFunction 101 = .ok (.aload_n 0, 1) := by decide +kernel
theorem dX6_ofFunction_102 : decode cX6_ofFunction 102 = .ok (.getfield 27, 3) := by decide +kernel
theorem dX6_ofFunction_105 : decode cX6_ofFunction 105 = .ok (.iload_n 1, 1) := by decide +kernel
theorem dX6_ofFunction_106 : decode cX6_ofFunction 106 = .ok (.invokevirtual 115, 3) := by decide +kernel
theorem dX6_ofFunction_109 : decode cX6_ofFunction 109 = .ok (.ireturn, 1) := by decide +kernel
theorem dX6_ofFunction_110 : decode cX6_ofFunction 110 = .ok (.bipush (-2), 2) := by decide +kernel
theorem dX6_ofFunction_112 : decode cX6_ofFunction 112 = .ok (.ireturn, 1) := by decide +kernel
set_option maxRecDepth 20000 in
theorem ggX6_step_X1_hasStep : GoodIn wsX6_step wsX1_hasStep := goodIn_r _ [6, 7, 8, 9, 10, 5, 11, 12, 27, 28, 29, 30, 31, 32] (by decide +kernel) (by decide +kernel)
set_option maxRecDepth 20000 in
theorem gX6_step_X1_hasStep : GoodIn wsX6_step (wsV RX6 118 RX1 yX1_hasStep wsX1_hasStep) := goodIn_app (goodIn_of _ (by decide +kernel)) ggX6_step_X1_hasStep
set_option maxRecDepth 20000 in
theorem ggX6_step_X1_stepAt : GoodIn wsX6_step wsX1_stepAt := goodIn_r _ [16, 17, 18, 3, 4, 5, 6, 7, 8, 9, 10, 11, 12, 27, 28, 29, 30, 31, 32] (by decide +kernel) (by decide +kernel)
set_option maxRecDepth 20000 in
theorem gX6_step_X1_stepAt : GoodIn wsX6_step (wsV RX6 122 RX1 yX1_stepAt wsX1_stepAt) := goodIn_app (goodIn_of _ (by decide +kernel)) ggX6_step_X1_stepAt
theorem dX6_step_0 : decode cX6_step 0 = .ok (.aload_n 0, 1) := by decide +kernel
theorem dX6_step_1 : decode cX6_step 1 = .ok (.getfield 35, 3) := by decide +kernel
theorem dX6_step_4 : decode cX6_step 4 = .ok (.iload_n 1, 1) := by decide +kernel
theorem dX6_step_5 : decode cX6_step 5 = .ok (.iload_n 2, 1) := by decide +kernel
theorem dX6_step_6 : decode cX6_step 6 = .ok (.invokevirtual 118, 3) := by decide +kernel
theorem dX6_step_9 : decode cX6_step 9 = .ok (.ifCond .eq 15, 3) := by decide +kernel
theorem dX6_step_12 : decode cX6_step 12 = .ok (.aload_n 0, 1) := by decide +kernel
theorem dX6_step_13 : decode cX6_step 13 = .ok (.getfield 35, 3) := by decide +kernel
theorem dX6_step_16 : decode cX6_step 16 = .ok (.iload_n 1, 1) := by decide +kernel
theorem dX6_step_17 : decode cX6_step 17 = .ok (.iload_n 2, 1) := by decide +kernel
theorem dX6_step_18 : decode cX6_step 18 = .ok (.invokevirtual 122, 3) := by decide +kernel
theorem dX6_step_21 : decode cX6_step 21 = .ok (.goto 4, 3) := by decide +kernel
theorem dX6_step_24 : decode cX6_step 24 = .ok (.iconst (-1), 1) := by decide +kernel
theorem dX6_step_25 : decode cX6_step 25 = .ok (.ireturn, 1) := by decide +kernel
set_option maxRecDepth 20000 in
theorem ggX6_patch_X1_hasStep : GoodIn wsX6_patch wsX1_hasStep := goodIn_r _ [6, 7, 8, 9, 10, 5, 11, 12, 31, 32, 33, 34, 35, 36] (by decide +kernel) (by decide +kernel)
set_option maxRecDepth 20000 in
theorem gX6_patch_X1_hasStep : GoodIn wsX6_patch (wsV RX6 118 RX1 yX1_hasStep wsX1_hasStep) := goodIn_app (goodIn_of _ (by decide +kernel)) ggX6_patch_X1_hasStep
set_option maxRecDepth 20000 in
theorem ggX6_patch_X1_stepAt : GoodIn wsX6_patch wsX1_stepAt := goodIn_r _ [16, 17, 18, 3, 4, 5, 6, 7, 8, 9, 10, 11, 12, 31, 32, 33, 34, 35, 36] (by decide +kernel) (by decide +kernel)
set_option maxRecDepth 20000 in
theorem gX6_patch_X1_stepAt : GoodIn wsX6_patch (wsV RX6 122 RX1 yX1_stepAt wsX1_stepAt) := goodIn_app (goodIn_of _ (by decide +kernel)) ggX6_patch_X1_stepAt
set_option maxRecDepth 20000 in
theorem ggX6_patch_X1_setStep : GoodIn wsX6_patch wsX1_setStep := goodIn_r _ [22, 17, 18, 3, 4, 5, 6, 7, 8, 9, 10, 11, 12, 31, 32, 33, 34, 35, 36] (by decide +kernel) (by decide +kernel)
set_option maxRecDepth 20000 in
theorem gX6_patch_X1_setStep : GoodIn wsX6_patch (wsV RX6 126 RX1 yX1_setStep wsX1_setStep) := goodIn_app (goodIn_of _ (by decide +kernel)) ggX6_patch_X1_setStep
theorem dX6_patch_0 : decode cX6_patch 0 = .ok (.aload_n 0, 1) := by decide +kernel
theorem dX6_patch_1 : decode cX6_patch 1 = .ok (.getfield 35, 3) := by decide +kernel
theorem dX6_patch_4 : decode cX6_patch 4 = .ok (.iload_n 1, 1) := by decide +kernel
theorem dX6_patch_5 : decode cX6_patch 5 = .ok (.iload_n 2, 1) := by decide +kernel
theorem dX6_patch_6 : decode cX6_patch 6 = .ok (.invokevirtual 118, 3) := by decide +kernel
theorem dX6_patch_9 : decode cX6_patch 9 = .ok (.ifCond .ne 5, 3) := by decide +kernel
theorem dX6_patch_12 : decode cX6_patch 12 = .ok (.iconst (-1), 1) := by decide +kernel
theorem dX6_patch_13 : decode cX6_patch 13 = .ok (.ireturn, 1) := by decide +kernel
theorem dX6_patch_14 : decode cX6_patch 14 = .ok (.iload_n 3, 1) := by decide +kernel
theorem dX6_patch_15 : decode cX6_patch 15 = .ok (.ifCond .lt 10, 3) := by decide +kernel
theorem dX6_patch_18 : decode cX6_patch 18 = .ok (.iload_n 3, 1) := by decide +kernel
theorem dX6_patch_19 : decode cX6_patch 19 = .ok (.iconst 4, 1) := by decide +kernel
theorem dX6_patch_20 : decode cX6_patch 20 = .ok (.iload_n 1, 1) := by decide +kernel
theorem dX6_patch_21 : decode cX6_patch 21 = .ok (.iadd, 1) := by decide +kernel
theorem dX6_patch_22 : decode cX6_patch 22 = .ok (.if_icmp .lt 6, 3) := by decide +kernel
theorem dX6_patch_25 : decode cX6_patch 25 = .ok (.bipush (-2), 2) := by decide +kernel
theorem dX6_patch_27 : decode cX6_patch 27 = .ok (.ireturn, 1) := by decide +kernel
theorem dX6_patch_28 : decode cX6_patch 28 = .ok (.aload_n 0, 1) := by decide +kernel
theorem dX6_patch_29 : decode cX6_patch 29 = .ok (.getfield 35, 3) := by decide +kernel
theorem dX6_patch_32 : decode cX6_patch 32 = .ok (.iload_n 1, 1) := by decide +kernel
theorem dX6_patch_33 : decode cX6_patch 33 = .ok (.iload_n 2, 1) := by decide +kernel
theorem dX6_patch_34 : decode cX6_patch 34 = .ok (.invokevirtual 122, 3) := by decide +kernel
theorem dX6_patch_37 : decode cX6_patch 37 = .ok (.istore 4, 2) := by decide +kernel
theorem dX6_patch_39 : decode cX6_patch 39 = .ok (.aload_n 0, 1) := by decide +kernel
theorem dX6_patch_40 : decode cX6_patch 40 = .ok (.getfield 35, 3) := by decide +kernel
theorem dX6_patch_43 : decode cX6_patch 43 = .ok (.iload_n 1, 1) := by decide +kernel
theorem dX6_patch_44 : decode cX6_patch 44 = .ok (.iload_n 2, 1) := by decide +kernel
theorem dX6_patch_45 : decode cX6_patch 45 = .ok (.iload_n 3, 1) := by decide +kernel
theorem dX6_patch_46 : decode cX6_patch 46 = .ok (.invokevirtual 126, 3) := by decide +kernel
theorem dX6_patch_49 : decode cX6_patch 49 = .ok (.iload 4, 2) := by decide +kernel
theorem dX6_patch_51 : decode cX6_patch 51 = .ok (.ireturn, 1) := by decide +kernel
set_option maxRecDepth 20000 in
theorem ggX6_guard_X1_has : GoodIn wsX6_guard wsX1_has := goodIn_r _ [6, 7, 20, 21, 22, 23, 24, 25] (by decide +kernel) (by decide +kernel)
set_option maxRecDepth 20000 in
theorem gX6_guard_X1_has : GoodIn wsX6_guard (wsV RX6 96 RX1 yX1_has wsX1_has) := goodIn_app (goodIn_of _ (by decide +kernel)) ggX6_guard_X1_has
set_option maxRecDepth 20000 in
theorem ggX6_guard_X6_isAct : GoodIn wsX6_guard wsX6_isAct := goodIn_r _ [11] (by decide +kernel) (by decide +kernel)
set_option maxRecDepth 20000 in
theorem gX6_guard_X6_isAct : GoodIn wsX6_guard (va_wsS RX6 130 yX6_isAct wsX6_isAct) := goodIn_app (goodIn_of _ (by decide +kernel)) ggX6_guard_X6_isAct
theorem dX6_guard_0 : decode cX6_guard 0 = .ok (.aload_n 0, 1) := by decide +kernel
theorem dX6_guard_1 : decode cX6_guard 1 = .ok (.getfield 35, 3) := by decide +kernel
theorem dX6_guard_4 : decode cX6_guard 4 = .ok (.iload_n 1, 1) := by decide +kernel
theorem dX6_guard_5 : decode cX6_guard 5 = .ok (.invokevirtual 96, 3) := by decide +kernel
theorem dX6_guard_8 : decode cX6_guard 8 = .ok (.ifCond .ne 5, 3) := by decide +kernel
theorem dX6_guard_11 : decode cX6_guard 11 = .ok (.iconst (-1), 1) := by decide +kernel
theorem dX6_guard_12 : decode cX6_guard 12 = .ok (.ireturn, 1) := by decide +kernel
theorem dX6_guard_13 : decode cX6_guard 13 = .ok (.iload_n 2, 1) := by decide +kernel
theorem dX6_guard_14 : decode cX6_guard 14 = .ok (.invokestatic 130, 3) := by decide +kernel
theorem dX6_guard_17 : decode cX6_guard 17 = .ok (.ifCond .ne 6, 3) := by decide +kernel
theorem dX6_guard_20 : decode cX6_guard 20 = .ok (.bipush (-2), 2) := by decide +kernel
theorem dX6_guard_22 : decode cX6_guard 22 = .ok (.ireturn, 1) := by decide +kernel
theorem dX6_guard_23 : decode cX6_guard 23 = .ok (.aload_n 0, 1) := by decide +kernel
theorem dX6_guard_24 : decode cX6_guard 24 = .ok (.getfield 35, 3) := by decide +kernel
theorem dX6_guard_27 : decode cX6_guard 27 = .ok (.getfield 103, 3) := by decide +kernel
theorem dX6_guard_30 : decode cX6_guard 30 = .ok (.iload_n 1, 1) := by decide +kernel
theorem dX6_guard_31 : decode cX6_guard 31 = .ok (.iaload, 1) := by decide +kernel
theorem dX6_guard_32 : decode cX6_guard 32 = .ok (.istore_n 3, 1) := by decide +kernel
theorem dX6_guard_33 : decode cX6_guard 33 = .ok (.aload_n 0, 1) := by decide +kernel
theorem dX6_guard_34 : decode cX6_guard 34 = .ok (.getfield 35, 3) := by decide +kernel
theorem dX6_guard_37 : decode cX6_guard 37 = .ok (.getfield 103, 3) := by decide +kernel
theorem dX6_guard_40 : decode cX6_guard 40 = .ok (.iload_n 1, 1) := by decide +kernel
theorem dX6_guard_41 : decode cX6_guard 41 = .ok (.iload_n 2, 1) := by decide +kernel
theorem dX6_guard_42 : decode cX6_guard 42 = .ok (.iastore, 1) := by decide +kernel
theorem dX6_guard_43 : decode cX6_guard 43 = .ok (.iload_n 3, 1) := by decide +kernel
theorem dX6_guard_44 : decode cX6_guard 44 = .ok (.ireturn, 1) := by decide +kernel
set_option maxRecDepth 20000 in
theorem ggX6_live_X6_isSet : GoodIn wsX6_live wsX6_isSet := goodIn_r _ [5] (by decide +kernel) (by decide +kernel)
set_option maxRecDepth 20000 in
theorem gX6_live_X6_isSet : GoodIn wsX6_live (va_wsS RX6 133 yX6_isSet wsX6_isSet) := goodIn_app (goodIn_of _ (by decide +kernel)) ggX6_live_X6_isSet
set_option maxRecDepth 20000 in
theorem ggX6_live_X1_isNone : GoodIn wsX6_live wsX1_isNone := goodIn_r _ [10, 11, 20, 21, 22, 23, 24, 25] (by decide +kernel) (by decide +kernel)
set_option maxRecDepth 20000 in
theorem gX6_live_X1_isNone : GoodIn wsX6_live (wsV RX6 136 RX1 yX1_isNone wsX1_isNone) := goodIn_app (goodIn_of _ (by decide +kernel)) ggX6_live_X1_isNone
theorem dX6_live_0 : decode cX6_live 0 = .ok (.iload_n 1, 1) := by decide +kernel
theorem dX6_live_1 : decode cX6_live 1 = .ok (.invokestatic 133, 3) := by decide +kernel
theorem dX6_live_4 : decode cX6_live 4 = .ok (.ifCond .ne 6, 3) := by decide +kernel
theorem dX6_live_7 : decode cX6_live 7 = .ok (.bipush (-2), 2) := by decide +kernel
theorem dX6_live_9 : decode cX6_live 9 = .ok (.ireturn, 1) := by decide +kernel
theorem dX6_live_10 : decode cX6_live 10 = .ok (.aload_n 0, 1) := by decide +kernel
