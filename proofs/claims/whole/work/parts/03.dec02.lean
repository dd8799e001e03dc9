theorem dX6_live_11 : decode cX6_live 11 = .ok (.getfield 35, 3) := by decide +kernel
theorem dX6_live_14 : decode cX6_live 14 = .ok (.invokevirtual 136, 3) := by decide +kernel
theorem dX6_live_17 : decode cX6_live 17 = .ok (.ifCond .eq 6, 3) := by decide +kernel
theorem dX6_live_20 : decode cX6_live 20 = .ok (.bipush (-3), 2) := by decide +kernel
theorem dX6_live_22 : decode cX6_live 22 = .ok (.ireturn, 1) := by decide +kernel
theorem dX6_live_23 : decode cX6_live 23 = .ok (.aload_n 0, 1) := by decide +kernel
theorem dX6_live_24 : decode cX6_live 24 = .ok (.getfield 35, 3) := by decide +kernel
theorem dX6_live_27 : decode cX6_live 27 = .ok (.getfield 140, 3) := by decide +kernel
theorem dX6_live_30 : decode cX6_live 30 = .ok (.istore_n 2, 1) := by decide +kernel
theorem dX6_live_31 : decode cX6_live 31 = .ok (.aload_n 0, 1) := by decide +kernel
theorem dX6_live_32 : decode cX6_live 32 = .ok (.getfield 35, 3) := by decide +kernel
theorem dX6_live_35 : decode cX6_live 35 = .ok (.iload_n 1, 1) := by decide +kernel
theorem dX6_live_36 : decode cX6_live 36 = .ok (.putfield 140, 3) := by decide +kernel
theorem dX6_live_39 : decode cX6_live 39 = .ok (.iload_n 2, 1) := by decide +kernel
theorem dX6_live_40 : decode cX6_live 40 = .ok (.ireturn, 1) := by decide +kernel
set_option maxRecDepth 20000 in
theorem ggX6_run_X1_has : GoodIn wsX6_run wsX1_has := goodIn_r _ [7, 8, 91, 92, 93, 94, 95, 96] (by decide +kernel) (by decide +kernel)
set_option maxRecDepth 20000 in
theorem gX6_run_X1_has : GoodIn wsX6_run (wsV RX6 96 RX1 yX1_has wsX1_has) := goodIn_app (goodIn_of _ (by decide +kernel)) ggX6_run_X1_has
set_option maxRecDepth 20000 in
theorem ggX6_run_X5_begin : GoodIn wsX6_run wsX5_begin := goodIn_r _ [13, 14, 15, 16, 17, 18, 19, 20, 21, 82, 83, 84, 85, 86, 87, 88, 89, 90, 91, 92, 93, 94, 95, 96] (by decide +kernel) (by decide +kernel)
set_option maxRecDepth 20000 in
theorem gX6_run_X5_begin : GoodIn wsX6_run (wsV RX6 109 RX5 yX5_begin wsX5_begin) := goodIn_app (goodIn_of _ (by decide +kernel)) ggX6_run_X5_begin
set_option maxRecDepth 20000 in
theorem ggX6_run_X5_settleAll : GoodIn wsX6_run wsX5_settleAll := goodIn_r _ [25, 14, 26, 27, 28, 12, 29, 30, 31, 32, 33, 15, 34, 35, 36, 6, 37, 38, 39, 40, 41, 42, 43, 44, 4, 5, 7, 8, 45, 46, 47, 48, 49, 50, 51, 52, 53, 21, 54, 55, 56, 57, 58, 59, 60, 61, 62, 63, 64, 65, 20, 82, 83, 84, 85, 86, 87, 88, 89, 90, 91, 92, 93, 94, 95, 96] (by decide +kernel) (by decide +kernel)
set_option maxRecDepth 20000 in
theorem gX6_run_X5_settleAll : GoodIn wsX6_run (wsV RX6 143 RX5 yX5_settleAll wsX5_settleAll) := goodIn_app (goodIn_of _ (by decide +kernel)) ggX6_run_X5_settleAll
set_option maxRecDepth 20000 in
theorem ggX6_run_X5_pathLength : GoodIn wsX6_run wsX5_pathLength := goodIn_r _ [69, 70, 71, 72, 12, 73, 30, 14, 31, 49, 4, 5, 6, 7, 8, 82, 83, 84, 85, 86, 87, 88, 89, 90, 91, 92, 93, 94, 95, 96] (by decide +kernel) (by decide +kernel)
set_option maxRecDepth 20000 in
theorem gX6_run_X5_pathLength : GoodIn wsX6_run (wsV RX6 155 RX5 yX5_pathLength wsX5_pathLength) := goodIn_app (goodIn_of _ (by decide +kernel)) ggX6_run_X5_pathLength
theorem dX6_run_0 : decode cX6_run 0 = .ok (.aload_n 0, 1) := by decide +kernel
theorem dX6_run_1 : decode cX6_run 1 = .ok (.getfield 35, 3) := by decide +kernel
theorem dX6_run_4 : decode cX6_run 4 = .ok (.iload_n 1, 1) := by decide +kernel
theorem dX6_run_5 : decode cX6_run 5 = .ok (.invokevirtual 96, 3) := by decide +kernel
theorem dX6_run_8 : decode cX6_run 8 = .ok (.ifCond .ne 5, 3) := by decide +kernel
theorem dX6_run_11 : decode cX6_run 11 = .ok (.iconst (-1), 1) := by decide +kernel
theorem dX6_run_12 : decode cX6_run 12 = .ok (.ireturn, 1) := by decide +kernel
theorem dX6_run_13 : decode cX6_run 13 = .ok (.iload_n 2, 1) := by decide +kernel
theorem dX6_run_14 : decode cX6_run 14 = .ok (.ifCond .lt 8, 3) := by decide +kernel
theorem dX6_run_17 : decode cX6_run 17 = .ok (.iload_n 2, 1) := by decide +kernel
theorem dX6_run_18 : decode cX6_run 18 = .ok (.iconst 3, 1) := by decide +kernel
theorem dX6_run_19 : decode cX6_run 19 = .ok (.if_icmp .le 6, 3) := by decide +kernel
theorem dX6_run_22 : decode cX6_run 22 = .ok (.bipush (-2), 2) := by decide +kernel
theorem dX6_run_24 : decode cX6_run 24 = .ok (.ireturn, 1) := by decide +kernel
theorem dX6_run_25 : decode cX6_run 25 = .ok (.aload_n 0, 1) := by decide +kernel
theorem dX6_run_26 : decode cX6_run 26 = .ok (.getfield 27, 3) := by decide +kernel
theorem dX6_run_29 : decode cX6_run 29 = .ok (.invokevirtual 109, 3) := by decide +kernel
theorem dX6_run_32 : decode cX6_run 32 = .ok (.aload_n 0, 1) := by decide +kernel
theorem dX6_run_33 : decode cX6_run 33 = .ok (.getfield 27, 3) := by decide +kernel
theorem dX6_run_36 : decode cX6_run 36 = .ok (.invokevirtual 143, 3) := by decide +kernel
theorem dX6_run_39 : decode cX6_run 39 = .ok (.iload_n 2, 1) := by decide +kernel
theorem dX6_run_40 : decode cX6_run 40 = .ok (.tableswitch 76 0 2 #[28, 56, 66], 28) := by decide +kernel
theorem dX6_run_68 : decode cX6_run 68 = .ok (.aload_n 0, 1) := by decide +kernel
theorem dX6_run_69 : decode cX6_run 69 = .ok (.getfield 27, 3) := by decide +kernel
theorem dX6_run_72 : decode cX6_run 72 = .ok (.getfield 146, 3) := by decide +kernel
theorem dX6_run_75 : decode cX6_run 75 = .ok (.iload_n 1, 1) := by decide +kernel
theorem dX6_run_76 : decode cX6_run 76 = .ok (.iaload, 1) := by decide +kernel
theorem dX6_run_77 : decode cX6_run 77 = .ok (.iconst 4, 1) := by decide +kernel
theorem dX6_run_78 : decode cX6_run 78 = .ok (.if_icmp .ne 8, 3) := by decide +kernel
theorem dX6_run_81 : decode cX6_run 81 = .ok (.bipush (-9), 2) := by decide +kernel
theorem dX6_run_83 : decode cX6_run 83 = .ok (.goto 12, 3) := by decide +kernel
theorem dX6_run_86 : decode cX6_run 86 = .ok (.aload_n 0, 1) := by decide +kernel
theorem dX6_run_87 : decode cX6_run 87 = .ok (.getfield 27, 3) := by decide +kernel
theorem dX6_run_90 : decode cX6_run 90 = .ok (.getfield 146, 3) := by decide +kernel
theorem dX6_run_93 : decode cX6_run 93 = .ok (.iload_n 1, 1) := by decide +kernel
theorem dX6_run_94 : decode cX6_run 94 = .ok (.iaload, 1) := by decide +kernel
theorem dX6_run_95 : decode cX6_run 95 = .ok (.ireturn, 1) := by decide +kernel
theorem dX6_run_96 : decode cX6_run 96 = .ok (.aload_n 0, 1) := by decide +kernel
theorem dX6_run_97 : decode cX6_run 97 = .ok (.getfield 27, 3) := by decide +kernel
theorem dX6_run_100 : decode cX6_run 100 = .ok (.getfield 149, 3) := by decide +kernel
theorem dX6_run_103 : decode cX6_run 103 = .ok (.iload_n 1, 1) := by decide +kernel
theorem dX6_run_104 : decode cX6_run 104 = .ok (.iaload, 1) := by decide +kernel
theorem dX6_run_105 : decode cX6_run 105 = .ok (.ireturn, 1) := by decide +kernel
theorem dX6_run_106 : decode cX6_run 106 = .ok (.aload_n 0, 1) := by decide +kernel
theorem dX6_run_107 : decode cX6_run 107 = .ok (.getfield 27, 3) := by decide +kernel
theorem dX6_run_110 : decode cX6_run 110 = .ok (.getfield 152, 3) := by decide +kernel
theorem dX6_run_113 : decode cX6_run 113 = .ok (.iload_n 1, 1) := by decide +kernel
theorem dX6_run_114 : decode cX6_run 114 = .ok (.iaload, 1) := by decide +kernel
theorem dX6_run_115 : decode cX6_run 115 = .ok (.ireturn, 1) := by decide +kernel
theorem dX6_run_116 : decode cX6_run 116 = .ok (.aload_n 0, 1) := by decide +kernel
theorem dX6_run_117 : decode cX6_run 117 = .ok (.getfield 27, 3) := by decide +kernel
theorem dX6_run_120 : decode cX6_run 120 = .ok (.iload_n 1, 1) := by decide +kernel
theorem dX6_run_121 : decode cX6_run 121 = .ok (.invokevirtual 155, 3) := by decide +kernel
theorem dX6_run_124 : decode cX6_run 124 = .ok (.ireturn, 1) := by decide +kernel
set_option maxRecDepth 20000 in
theorem ggX6_performed_X1_has : GoodIn wsX6_performed wsX1_has := goodIn_r _ [7, 8, 87, 88, 89, 90, 91, 92] (by decide +kernel) (by decide +kernel)
set_option maxRecDepth 20000 in
theorem gX6_performed_X1_has : GoodIn wsX6_performed (wsV RX6 96 RX1 yX1_has wsX1_has) := goodIn_app (goodIn_of _ (by decide +kernel)) ggX6_performed_X1_has
set_option maxRecDepth 20000 in
theorem ggX6_performed_X5_begin : GoodIn wsX6_performed wsX5_begin := goodIn_r _ [13, 14, 15, 16, 17, 18, 19, 20, 21, 93, 94, 95, 96, 97, 98, 99, 100, 101, 87, 88, 89, 90, 91, 92] (by decide +kernel) (by decide +kernel)
set_option maxRecDepth 20000 in
theorem gX6_performed_X5_begin : GoodIn wsX6_performed (wsV RX6 109 RX5 yX5_begin wsX5_begin) := goodIn_app (goodIn_of _ (by decide +kernel)) ggX6_performed_X5_begin
set_option maxRecDepth 20000 in
theorem ggX6_performed_X5_settleAll : GoodIn wsX6_performed wsX5_settleAll := goodIn_r _ [25, 14, 26, 27, 28, 12, 29, 30, 31, 32, 33, 15, 34, 35, 36, 6, 37, 38, 39, 40, 41, 42, 43, 44, 4, 5, 7, 8, 45, 46, 47, 48, 49, 50, 51, 52, 53, 21, 54, 55, 56, 57, 58, 59, 60, 61, 62, 63, 64, 65, 20, 93, 94, 95, 96, 97, 98, 99, 100, 101, 87, 88, 89, 90, 91, 92] (by decide +kernel) (by decide +kernel)
set_option maxRecDepth 20000 in
theorem gX6_performed_X5_settleAll : GoodIn wsX6_performed (wsV RX6 143 RX5 yX5_settleAll wsX5_settleAll) := goodIn_app (goodIn_of _ (by decide +kernel)) ggX6_performed_X5_settleAll
set_option maxRecDepth 20000 in
theorem ggX6_performed_X5_actAt : GoodIn wsX6_performed wsX5_actAt := goodIn_r _ [69, 32, 14, 70, 71, 72, 12, 73, 74, 75, 76, 77, 78, 40, 41, 6, 42, 43, 44, 4, 5, 7, 8, 34, 35, 36, 37, 38, 39, 58, 59, 60, 61, 49, 50, 51, 52, 53, 21, 93, 94, 95, 96, 97, 98, 99, 100, 101, 87, 88, 89, 90, 91, 92] (by decide +kernel) (by decide +kernel)
set_option maxRecDepth 20000 in
theorem gX6_performed_X5_actAt : GoodIn wsX6_performed (wsV RX6 158 RX5 yX5_actAt wsX5_actAt) := goodIn_app (goodIn_of _ (by decide +kernel)) ggX6_performed_X5_actAt
theorem dX6_performed_0 : decode cX6_performed 0 = .ok (.aload_n 0, 1) := by decide +kernel
theorem dX6_performed_1 : decode cX6_performed 1 = .ok (.getfield 35, 3) := by decide +kernel
theorem dX6_performed_4 : decode cX6_performed 4 = .ok (.iload_n 1, 1) := by decide +kernel
theorem dX6_performed_5 : decode cX6_performed 5 = .ok (.invokevirtual 96, 3) := by decide +kernel
theorem dX6_performed_8 : decode cX6_performed 8 = .ok (.ifCond .ne 5, 3) := by decide +kernel
theorem dX6_performed_11 : decode cX6_performed 11 = .ok (.iconst (-1), 1) := by decide +kernel
theorem dX6_performed_12 : decode cX6_performed 12 = .ok (.ireturn, 1) := by decide +kernel
theorem dX6_performed_13 : decode cX6_performed 13 = .ok (.iload_n 2, 1) := by decide +kernel
theorem dX6_performed_14 : decode cX6_performed 14 = .ok (.ifCond .ge 6, 3) := by decide +kernel
theorem dX6_performed_17 : decode cX6_performed 17 = .ok (.bipush (-2), 2) := by decide +kernel
theorem dX6_performed_19 : decode cX6_performed 19 = .ok (.ireturn, 1) := by decide +kernel
theorem dX6_performed_20 : decode cX6_performed 20 = .ok (.aload_n 0, 1) := by decide +kernel
theorem dX6_performed_21 : decode cX6_performed 21 = .ok (.getfield 27, 3) := by decide +kernel
theorem dX6_performed_24 : decode cX6_performed 24 = .ok (.invokevirtual 109, 3) := by decide +kernel
theorem dX6_performed_27 : decode cX6_performed 27 = .ok (.aload_n 0, 1) := by decide +kernel
theorem dX6_performed_28 : decode cX6_performed 28 = .ok (.getfield 27, 3) := by decide +kernel
theorem dX6_performed_31 : decode cX6_performed 31 = .ok (.invokevirtual 143, 3) := by decide +kernel
theorem dX6_performed_34 : decode cX6_performed 34 = .ok (.aload_n 0, 1) := by decide +kernel
theorem dX6_performed_35 : decode cX6_performed 35 = .ok (.getfield 27, 3) := by decide +kernel
theorem dX6_performed_38 : decode cX6_performed 38 = .ok (.iload_n 1, 1) := by decide +kernel
theorem dX6_performed_39 : decode cX6_performed 39 = .ok (.iload_n 2, 1) := by decide +kernel
theorem dX6_performed_40 : decode cX6_performed 40 = .ok (.invokevirtual 158, 3) := by decide +kernel
theorem dX6_performed_43 : decode cX6_performed 43 = .ok (.ireturn, 1) := by decide +kernel
set_option maxRecDepth 20000 in
theorem ggX6_path_X1_has : GoodIn wsX6_path wsX1_has := goodIn_r _ [7, 8, 78, 79, 80, 81, 82, 83] (by decide +kernel) (by decide +kernel)
set_option maxRecDepth 20000 in
theorem gX6_path_X1_has : GoodIn wsX6_path (wsV RX6 96 RX1 yX1_has wsX1_has) := goodIn_app (goodIn_of _ (by decide +kernel)) ggX6_path_X1_has
set_option maxRecDepth 20000 in
theorem ggX6_path_X5_begin : GoodIn wsX6_path wsX5_begin := goodIn_r _ [13, 14, 15, 16, 17, 18, 19, 20, 21, 84, 85, 86, 87, 88, 89, 90, 91, 92, 78, 79, 80, 81, 82, 83] (by decide +kernel) (by decide +kernel)
set_option maxRecDepth 20000 in
theorem gX6_path_X5_begin : GoodIn wsX6_path (wsV RX6 109 RX5 yX5_begin wsX5_begin) := goodIn_app (goodIn_of _ (by decide +kernel)) ggX6_path_X5_begin
set_option maxRecDepth 20000 in
theorem ggX6_path_X5_settleAll : GoodIn wsX6_path wsX5_settleAll := goodIn_r _ [25, 14, 26, 27, 28, 12, 29, 30, 31, 32, 33, 15, 34, 35, 36, 6, 37, 38, 39, 40, 41, 42, 43, 44, 4, 5, 7, 8, 45, 46, 47, 48, 49, 50, 51, 52, 53, 21, 54, 55, 56, 57, 58, 59, 60, 61, 62, 63, 64, 65, 20, 84, 85, 86, 87, 88, 89, 90, 91, 92, 78, 79, 80, 81, 82, 83] (by decide +kernel) (by decide +kernel)
set_option maxRecDepth 20000 in
theorem gX6_path_X5_settleAll : GoodIn wsX6_path (wsV RX6 143 RX5 yX5_settleAll wsX5_settleAll) := goodIn_app (goodIn_of _ (by decide +kernel)) ggX6_path_X5_settleAll
set_option maxRecDepth 20000 in
theorem ggX6_path_X5_pathAt : GoodIn wsX6_path wsX5_pathAt := goodIn_r _ [69, 30, 14, 31, 49, 4, 5, 6, 7, 8, 84, 85, 86, 87, 88, 89, 90, 91, 92, 78, 79, 80, 81, 82, 83] (by decide +kernel) (by decide +kernel)
set_option maxRecDepth 20000 in
theorem gX6_path_X5_pathAt : GoodIn wsX6_path (wsV RX6 161 RX5 yX5_pathAt wsX5_pathAt) := goodIn_app (goodIn_of _ (by decide +kernel)) ggX6_path_X5_pathAt
theorem dX6_path_0 : decode cX6_path 0 = .ok (.aload_n 0, 1) := by decide +kernel
theorem dX6_path_1 : decode cX6_path 1 = .ok (.getfield 35, 3) := by decide +kernel
theorem dX6_path_4 : decode cX6_path 4 = .ok (.iload_n 1, 1) := by decide +kernel
theorem dX6_path_5 : decode cX6_path 5 = .ok (.invokevirtual 96, 3) := by decide +kernel
theorem dX6_path_8 : decode cX6_path 8 = .ok (.ifCond .ne 5, 3) := by decide +kernel
theorem dX6_path_11 : decode cX6_path 11 = .ok (.iconst (-1), 1) := by decide +kernel
theorem dX6_path_12 : decode cX6_path 12 = .ok (.ireturn, 1) := by decide +kernel
theorem dX6_path_13 : decode cX6_path 13 = .ok (.iload_n 2, 1) := by decide +kernel
theorem dX6_path_14 : decode cX6_path 14 = .ok (.ifCond .lt 8, 3) := by decide +kernel
theorem dX6_path_17 : decode cX6_path 17 = .ok (.iload_n 2, 1) := by decide +kernel
theorem dX6_path_18 : decode cX6_path 18 = .ok (.iconst 5, 1) := by decide +kernel
theorem dX6_path_19 : decode cX6_path 19 = .ok (.if_icmp .lt 6, 3) := by decide +kernel
theorem dX6_path_22 : decode cX6_path 22 = .ok (.bipush (-2), 2) := by decide +kernel
theorem dX6_path_24 : decode cX6_path 24 = .ok (.ireturn, 1) := by decide +kernel
theorem dX6_path_25 : decode cX6_path 25 = .ok (.aload_n 0, 1) := by decide +kernel
theorem dX6_path_26 : decode cX6_path 26 = .ok (.getfield 27, 3) := by decide +kernel
theorem dX6_path_29 : decode cX6_path 29 = .ok (.invokevirtual 109, 3) := by decide +kernel
theorem dX6_path_32 : decode cX6_path 32 = .ok (.aload_n 0, 1) := by decide +kernel
theorem dX6_path_33 : decode cX6_path 33 = .ok (.getfield 27, 3) := by decide +kernel
theorem dX6_path_36 : decode cX6_path 36 = .ok (.invokevirtual 143, 3) := by decide +kernel
theorem dX6_path_39 : decode cX6_path 39 = .ok (.aload_n 0, 1) := by decide +kernel
theorem dX6_path_40 : decode cX6_path 40 = .ok (.getfield 27, 3) := by decide +kernel
theorem dX6_path_43 : decode cX6_path 43 = .ok (.iload_n 1, 1) := by decide +kernel
theorem dX6_path_44 : decode cX6_path 44 = .ok (.iload_n 2, 1) := by decide +kernel
theorem dX6_path_45 : decode cX6_path 45 = .ok (.invokevirtual 161, 3) := by decide +kernel
theorem dX6_path_48 : decode cX6_path 48 = .ok (.ireturn, 1) := by decide +kernel
set_option maxRecDepth 20000 in
theorem ggX6_day_X6_isSheet : GoodIn wsX6_day wsX6_isSheet := goodIn_r _ [9] (by decide +kernel) (by decide +kernel)
set_option maxRecDepth 20000 in
theorem gX6_day_X6_isSheet : GoodIn wsX6_day (va_wsS RX6 60 yX6_isSheet wsX6_isSheet) := goodIn_app (goodIn_of _ (by decide +kernel)) ggX6_day_X6_isSheet
set_option maxRecDepth 20000 in
theorem ggX6_day_X6_isLane : GoodIn wsX6_day wsX6_isLane := goodIn_r _ [12] (by decide +kernel) (by decide +kernel)
set_option maxRecDepth 20000 in
theorem gX6_day_X6_isLane : GoodIn wsX6_day (va_wsS RX6 64 yX6_isLane wsX6_isLane) := goodIn_app (goodIn_of _ (by decide +kernel)) ggX6_day_X6_isLane
set_option maxRecDepth 20000 in
theorem ggX6_day_X0_isQuestion : GoodIn wsX6_day wsX0_isQuestion := goodIn_r _ [16] (by decide +kernel) (by decide +kernel)
set_option maxRecDepth 20000 in
theorem gX6_day_X0_isQuestion : GoodIn wsX6_day (va_wsS RX6 164 yX0_isQuestion wsX0_isQuestion) := goodIn_app (goodIn_of _ (by decide +kernel)) ggX6_day_X0_isQuestion
set_option maxRecDepth 20000 in
theorem ggX6_day_X1_isNone : GoodIn wsX6_day wsX1_isNone := goodIn_r _ [21, 22, 150, 151, 152, 153, 154, 155] (by decide +kernel) (by decide +kernel)
set_option maxRecDepth 20000 in
theorem gX6_day_X1_isNone : GoodIn wsX6_day (wsV RX6 136 RX1 yX1_isNone wsX1_isNone) := goodIn_app (goodIn_of _ (by decide +kernel)) ggX6_day_X1_isNone
set_option maxRecDepth 20000 in
theorem ggX6_day_X3_faultOfTaking : GoodIn wsX6_day wsX3_faultOfTaking := goodIn_r _ [27, 28, 29, 30, 31, 26, 32, 33, 34, 35, 36, 37, 156, 157, 158] (by decide +kernel) (by decide +kernel)
set_option maxRecDepth 20000 in
theorem gX6_day_X3_faultOfTaking : GoodIn wsX6_day (wsV RX6 67 RX3 yX3_faultOfTaking wsX3_faultOfTaking) := goodIn_app (goodIn_of _ (by decide +kernel)) ggX6_day_X3_faultOfTaking
set_option maxRecDepth 20000 in
theorem ggX6_day_X6_faulted : GoodIn wsX6_day wsX6_faulted := goodIn_r _ [41, 1, 142, 143, 144, 145, 146, 147, 148, 149] (by decide +kernel) (by decide +kernel)
set_option maxRecDepth 20000 in
theorem gX6_day_X6_faulted : GoodIn wsX6_day (wsV RX6 71 RX6 yX6_faulted wsX6_faulted) := goodIn_app (goodIn_of _ (by decide +kernel)) ggX6_day_X6_faulted
set_option maxRecDepth 20000 in
theorem ggX6_day_X0_isTold : GoodIn wsX6_day wsX0_isTold := goodIn_r _ [44, 45, 46, 47, 26, 48, 49, 33, 34, 35, 36, 37, 50, 51, 15, 52, 156, 157, 158] (by decide +kernel) (by decide +kernel)
set_option maxRecDepth 20000 in
theorem gX6_day_X0_isTold : GoodIn wsX6_day (va_wsS RX6 167 yX0_isTold wsX0_isTold) := goodIn_app (goodIn_of _ (by decide +kernel)) ggX6_day_X0_isTold
set_option maxRecDepth 20000 in
theorem ggX6_day_X0_pass : GoodIn wsX6_day wsX0_pass := goodIn_r _ [56, 57, 58, 59, 60, 61, 62, 63, 64, 65, 66, 67, 68, 69, 70, 71, 72, 45, 46, 47, 26, 48, 49, 33, 34, 35, 36, 37, 73, 74, 75, 15, 76, 77, 78, 79, 20, 80, 22, 81, 82, 83, 84, 85, 86, 87, 88, 89, 90, 91, 92, 93, 94, 95, 96, 97, 98, 99, 100, 101, 102, 103, 104, 105, 106, 107, 108, 109, 110, 111, 112, 113, 114, 115, 116, 117, 118, 119, 120, 121, 122, 123, 124, 125, 126, 127, 128, 159, 160, 161, 162, 163, 164, 165, 166, 167, 168, 169, 170, 150, 151, 152, 153, 154, 155, 156, 157, 158] (by decide +kernel) (by decide +kernel)
set_option maxRecDepth 20000 in
theorem gX6_day_X0_pass : GoodIn wsX6_day (wsV RX6 171 RX0 yX0_pass wsX0_pass) := goodIn_app (goodIn_of _ (by decide +kernel)) ggX6_day_X0_pass
set_option maxRecDepth 20000 in
theorem ggX6_day_X0_answer : GoodIn wsX6_day wsX0_answer := goodIn_r _ [132, 59, 57, 58, 133, 134, 135, 63, 136, 65, 137, 138, 139, 140, 141, 66, 71, 97, 98, 99, 20, 100, 101, 102, 103, 104, 105, 106, 107, 78, 79, 80, 22, 112, 77, 159, 160, 161, 162, 163, 164, 165, 166, 167, 168, 169, 170, 150, 151, 152, 153, 154, 155] (by decide +kernel) (by decide +kernel)
set_option maxRecDepth 20000 in
theorem gX6_day_X0_answer : GoodIn wsX6_day (wsV RX6 175 RX0 yX0_answer wsX0_answer) := goodIn_app (goodIn_of _ (by decide +kernel)) ggX6_day_X0_answer
theorem dX6_day_0 : decode cX6_day 0 = .ok (.aload_n 0, 1) := by decide +kernel
theorem dX6_day_1 : decode cX6_day 1 = .ok (.iconst 0, 1) := by decide +kernel
theorem dX6_day_2 : decode cX6_day 2 = .ok (.putfield 52, 3) := by decide +kernel
theorem dX6_day_5 : decode cX6_day 5 = .ok (.iload_n 1, 1) := by decide +kernel
theorem dX6_day_6 : decode cX6_day 6 = .ok (.invokestatic 60, 3) := by decide +kernel
theorem dX6_day_9 : decode cX6_day 9 = .ok (.ifCond .ne 5, 3) := by decide +kernel
theorem dX6_day_12 : decode cX6_day 12 = .ok (.iconst (-1), 1) := by decide +kernel
theorem dX6_day_13 : decode cX6_day 13 = .ok (.ireturn, 1) := by decide +kernel
theorem dX6_day_14 : decode cX6_day 14 = .ok (.iload_n 2, 1) := by decide +kernel
theorem dX6_day_15 : decode cX6_day 15 = .ok (.invokestatic 64, 3) := by decide +kernel
theorem dX6_day_18 : decode cX6_day 18 = .ok (.ifCond .eq 23, 3) := by decide +kernel
theorem dX6_day_21 : decode cX6_day 21 = .ok (.iload 4, 2) := by decide +kernel
theorem dX6_day_23 : decode cX6_day 23 = .ok (.ifCond .lt 18, 3) := by decide +kernel
theorem dX6_day_26 : decode cX6_day 26 = .ok (.iload 4, 2) := by decide +kernel
theorem dX6_day_28 : decode cX6_day 28 = .ok (.bipush 20, 2) := by decide +kernel
theorem dX6_day_30 : decode cX6_day 30 = .ok (.if_icmp .gt 11, 3) := by decide +kernel
theorem dX6_day_33 : decode cX6_day 33 = .ok (.iload 5, 2) := by decide +kernel
theorem dX6_day_35 : decode cX6_day 35 = .ok (.invokestatic 164, 3) := by decide +kernel
theorem dX6_day_38 : decode cX6_day 38 = .ok (.ifCond .ne 6, 3) := by decide +kernel
theorem dX6_day_41 : decode cX6_day 41 = .ok (.bipush (-2), 2) := by decide +kernel
theorem dX6_day_43 : decode cX6_day 43 = .ok (.ireturn, 1) := by decide +kernel
theorem dX6_day_44 : decode cX6_day 44 = .ok (.aload_n 0, 1) := by decide +kernel
theorem dX6_day_45 : decode cX6_day 45 = .ok (.getfield 35, 3) := by decide +kernel
theorem dX6_day_48 : decode cX6_day 48 = .ok (.invokevirtual 136, 3) := by decide +kernel
theorem dX6_day_51 : decode cX6_day 51 = .ok (.ifCond .eq 6, 3) := by decide +kernel
theorem dX6_day_54 : decode cX6_day 54 = .ok (.bipush (-3), 2) := by decide +kernel
theorem dX6_day_56 : decode cX6_day 56 = .ok (.ireturn, 1) := by decide +kernel
theorem dX6_day_57 : decode cX6_day 57 = .ok (.aload_n 0, 1) := by decide +kernel
theorem dX6_day_58 : decode cX6_day 58 = .ok (.getfield 13, 3) := by decide +kernel
theorem dX6_day_61 : decode cX6_day 61 = .ok (.iload_n 1, 1) := by decide +kernel
theorem dX6_day_62 : decode cX6_day 62 = .ok (.aaload, 1) := by decide +kernel
theorem dX6_day_63 : decode cX6_day 63 = .ok (.astore 6, 2) := by decide +kernel
theorem dX6_day_65 : decode cX6_day 65 = .ok (.aload 6, 2) := by decide +kernel
theorem dX6_day_67 : decode cX6_day 67 = .ok (.iload_n 2, 1) := by decide +kernel
theorem dX6_day_68 : decode cX6_day 68 = .ok (.iload_n 3, 1) := by decide +kernel
theorem dX6_day_69 : decode cX6_day 69 = .ok (.iconst 2, 1) := by decide +kernel
theorem dX6_day_70 : decode cX6_day 70 = .ok (.iload 4, 2) := by decide +kernel
theorem dX6_day_72 : decode cX6_day 72 = .ok (.imul, 1) := by decide +kernel
theorem dX6_day_73 : decode cX6_day 73 = .ok (.invokevirtual 67, 3) := by decide +kernel
theorem dX6_day_76 : decode cX6_day 76 = .ok (.istore 7, 2) := by decide +kernel
theorem dX6_day_78 : decode cX6_day 78 = .ok (.iload 7, 2) := by decide +kernel
theorem dX6_day_80 : decode cX6_day 80 = .ok (.ifCond .eq 10, 3) := by decide +kernel
theorem dX6_day_83 : decode cX6_day 83 = .ok (.aload_n 0, 1) := by decide +kernel
theorem dX6_day_84 : decode cX6_day 84 = .ok (.iload 7, 2) := by decide +kernel
theorem dX6_day_86 : decode cX6_day 86 = .ok (.invokevirtual 71, 3) := by decide +kernel
theorem dX6_day_89 : decode cX6_day 89 = .ok (.ireturn, 1) := by decide +kernel
theorem dX6_day_90 : decode cX6_day 90 = .ok (.aload 6, 2) := by decide +kernel
theorem dX6_day_92 : decode cX6_day 92 = .ok (.iload_n 3, 1) := by decide +kernel
theorem dX6_day_93 : decode cX6_day 93 = .ok (.iload 4, 2) := by decide +kernel
theorem dX6_day_95 : decode cX6_day 95 = .ok (.invokestatic 167, 3) := by decide +kernel
theorem dX6_day_98 : decode cX6_day 98 = .ok (.ifCond .ne 6, 3) := by decide +kernel
theorem dX6_day_101 : decode cX6_day 101 = .ok (.bipush (-2), 2) := by decide +kernel
theorem dX6_day_103 : decode cX6_day 103 = .ok (.ireturn, 1) := by decide +kernel
theorem dX6_day_104 : decode cX6_day 104 = .ok (.aload_n 0, 1) := by decide +kernel
theorem dX6_day_105 : decode cX6_day 105 = .ok (.getfield 41, 3) := by decide +kernel
theorem dX6_day_108 : decode cX6_day 108 = .ok (.aload_n 0, 1) := by decide +kernel
theorem dX6_day_109 : decode cX6_day 109 = .ok (.getfield 27, 3) := by decide +kernel
theorem dX6_day_112 : decode cX6_day 112 = .ok (.aload 6, 2) := by decide +kernel
theorem dX6_day_114 : decode cX6_day 114 = .ok (.iload_n 3, 1) := by decide +kernel
theorem dX6_day_115 : decode cX6_day 115 = .ok (.iload 4, 2) := by decide +kernel
theorem dX6_day_117 : decode cX6_day 117 = .ok (.invokevirtual 171, 3) := by decide +kernel
theorem dX6_day_120 : decode cX6_day 120 = .ok (.aload_n 0, 1) := by decide +kernel
theorem dX6_day_121 : decode cX6_day 121 = .ok (.getfield 41, 3) := by decide +kernel
theorem dX6_day_124 : decode cX6_day 124 = .ok (.aload_n 0, 1) := by decide +kernel
theorem dX6_day_125 : decode cX6_day 125 = .ok (.getfield 27, 3) := by decide +kernel
theorem dX6_day_128 : decode cX6_day 128 = .ok (.iload 5, 2) := by decide +kernel
theorem dX6_day_130 : decode cX6_day 130 = .ok (.invokevirtual 175, 3) := by decide +kernel
theorem dX6_day_133 : decode cX6_day 133 = .ok (.ireturn, 1) := by decide +kernel
set_option maxRecDepth 20000 in
theorem ggX6_witness_X1_has : GoodIn wsX6_witness wsX1_has := goodIn_r _ [7, 8, 91, 92, 93, 94, 95, 96] (by decide +kernel) (by decide +kernel)
set_option maxRecDepth 20000 in
theorem gX6_witness_X1_has : GoodIn wsX6_witness (wsV RX6 96 RX1 yX1_has wsX1_has) := goodIn_app (goodIn_of _ (by decide +kernel)) ggX6_witness_X1_has
set_option maxRecDepth 20000 in
theorem ggX6_witness_X6_isAct : GoodIn wsX6_witness wsX6_isAct := goodIn_r _ [12] (by decide +kernel) (by decide +kernel)
set_option maxRecDepth 20000 in
theorem gX6_witness_X6_isAct : GoodIn wsX6_witness (va_wsS RX6 130 yX6_isAct wsX6_isAct) := goodIn_app (goodIn_of _ (by decide +kernel)) ggX6_witness_X6_isAct
set_option maxRecDepth 20000 in
theorem ggX6_witness_X5_begin : GoodIn wsX6_witness wsX5_begin := goodIn_r _ [17, 18, 19, 20, 21, 22, 23, 24, 25, 82, 83, 84, 85, 86, 87, 88, 89, 90, 91, 92, 93, 94, 95, 96] (by decide +kernel) (by decide +kernel)
set_option maxRecDepth 20000 in
theorem gX6_witness_X5_begin : GoodIn wsX6_witness (wsV RX6 109 RX5 yX5_begin wsX5_begin) := goodIn_app (goodIn_of _ (by decide +kernel)) ggX6_witness_X5_begin
set_option maxRecDepth 20000 in
theorem ggX6_witness_X5_settleBy : GoodIn wsX6_witness wsX5_settleBy := goodIn_r _ [29, 25, 30, 31, 32, 16, 33, 18, 34, 35, 36, 37, 38, 39, 40, 41, 19, 42, 43, 44, 6, 45, 46, 47, 48, 49, 50, 51, 52, 4, 5, 7, 8, 53, 54, 55, 56, 57, 58, 59, 60, 61, 62, 63, 64, 65, 66, 67, 68, 69, 70, 71, 72, 73, 24, 82, 83, 84, 85, 86, 87, 88, 89, 90, 91, 92, 93, 94, 95, 96] (by decide +kernel) (by decide +kernel)
set_option maxRecDepth 20000 in
theorem gX6_witness_X5_settleBy : GoodIn wsX6_witness (wsV RX6 179 RX5 yX5_settleBy wsX5_settleBy) := goodIn_app (goodIn_of _ (by decide +kernel)) ggX6_witness_X5_settleBy
theorem dX6_witness_0 : decode cX6_witness 0 = .ok (.aload_n 0, 1) := by decide +kernel
theorem dX6_witness_1 : decode cX6_witness 1 = .ok (.getfield 35, 3) := by decide +kernel
theorem dX6_witness_4 : decode cX6_witness 4 = .ok (.iload_n 1, 1) := by decide +kernel
theorem dX6_witness_5 : decode cX6_witness 5 = .ok (.invokevirtual 96, 3) := by decide +kernel
theorem dX6_witness_8 : decode cX6_witness 8 = .ok (.ifCond .ne 5, 3) := by decide +kernel
theorem dX6_witness_11 : decode cX6_witness 11 = .ok (.iconst (-1), 1) := by decide +kernel
theorem dX6_witness_12 : decode cX6_witness 12 = .ok (.ireturn, 1) := by decide +kernel
theorem dX6_witness_13 : decode cX6_witness 13 = .ok (.iload_n 2, 1) := by decide +kernel
theorem dX6_witness_14 : decode cX6_witness 14 = .ok (.invokestatic 130, 3) := by decide +kernel
theorem dX6_witness_17 : decode cX6_witness 17 = .ok (.ifCond .ne 6, 3) := by decide +kernel
theorem dX6_witness_20 : decode cX6_witness 20 = .ok (.bipush (-2), 2) := by decide +kernel
theorem dX6_witness_22 : decode cX6_witness 22 = .ok (.ireturn, 1) := by decide +kernel
theorem dX6_witness_23 : decode cX6_witness 23 = .ok (.aload_n 0, 1) := by decide +kernel
theorem dX6_witness_24 : decode cX6_witness 24 = .ok (.getfield 27, 3) := by decide +kernel
theorem dX6_witness_27 : decode cX6_witness 27 = .ok (.invokevirtual 109, 3) := by decide +kernel
theorem dX6_witness_30 : decode cX6_witness 30 = .ok (.iconst 0, 1) := by decide +kernel
theorem dX6_witness_31 : decode cX6_witness 31 = .ok (.istore_n 3, 1) := by decide +kernel
theorem dX6_witness_32 : decode cX6_witness 32 = .ok (.iload_n 3, 1) := by decide +kernel
theorem dX6_witness_33 : decode cX6_witness 33 = .ok (.bipush 16, 2) := by decide +kernel
theorem dX6_witness_35 : decode cX6_witness 35 = .ok (.if_icmp .ge 32, 3) := by decide +kernel
theorem dX6_witness_38 : decode cX6_witness 38 = .ok (.aload_n 0, 1) := by decide +kernel
theorem dX6_witness_39 : decode cX6_witness 39 = .ok (.getfield 27, 3) := by decide +kernel
theorem dX6_witness_42 : decode cX6_witness 42 = .ok (.iload_n 3, 1) := by decide +kernel
theorem dX6_witness_43 : decode cX6_witness 43 = .ok (.invokevirtual 179, 3) := by decide +kernel
theorem dX6_witness_46 : decode cX6_witness 46 = .ok (.aload_n 0, 1) := by decide +kernel
theorem dX6_witness_47 : decode cX6_witness 47 = .ok (.getfield 27, 3) := by decide +kernel
theorem dX6_witness_50 : decode cX6_witness 50 = .ok (.getfield 146, 3) := by decide +kernel
theorem dX6_witness_53 : decode cX6_witness 53 = .ok (.iload_n 1, 1) := by decide +kernel
theorem dX6_witness_54 : decode cX6_witness 54 = .ok (.iaload, 1) := by decide +kernel
theorem dX6_witness_55 : decode cX6_witness 55 = .ok (.iload_n 2, 1) := by decide +kernel
theorem dX6_witness_56 : decode cX6_witness 56 = .ok (.if_icmp .ne 5, 3) := by decide +kernel
theorem dX6_witness_59 : decode cX6_witness 59 = .ok (.iload_n 3, 1) := by decide +kernel
theorem dX6_witness_60 : decode cX6_witness 60 = .ok (.ireturn, 1) := by decide +kernel
theorem dX6_witness_61 : decode cX6_witness 61 = .ok (.iinc 3 1, 3) := by decide +kernel
theorem dX6_witness_64 : decode cX6_witness 64 = .ok (.goto (-32), 3) := by decide +kernel
theorem dX6_witness_67 : decode cX6_witness 67 = .ok (.bipush (-9), 2) := by decide +kernel
theorem dX6_witness_69 : decode cX6_witness 69 = .ok (.ireturn, 1) := by decide +kernel
set_option maxRecDepth 20000 in
theorem ggX6_free_X1_has : GoodIn wsX6_free wsX1_has := goodIn_r _ [7, 8, 82, 83, 84, 85, 86, 87] (by decide +kernel) (by decide +kernel)
set_option maxRecDepth 20000 in
theorem gX6_free_X1_has : GoodIn wsX6_free (wsV RX6 96 RX1 yX1_has wsX1_has) := goodIn_app (goodIn_of _ (by decide +kernel)) ggX6_free_X1_has
set_option maxRecDepth 20000 in
theorem ggX6_free_X5_begin : GoodIn wsX6_free wsX5_begin := goodIn_r _ [13, 14, 15, 16, 17, 18, 19, 20, 21, 88, 89, 90, 91, 92, 93, 94, 95, 96, 82, 83, 84, 85, 86, 87] (by decide +kernel) (by decide +kernel)
set_option maxRecDepth 20000 in
theorem gX6_free_X5_begin : GoodIn wsX6_free (wsV RX6 109 RX5 yX5_begin wsX5_begin) := goodIn_app (goodIn_of _ (by decide +kernel)) ggX6_free_X5_begin
set_option maxRecDepth 20000 in
theorem ggX6_free_X5_settleBy : GoodIn wsX6_free wsX5_settleBy := goodIn_r _ [25, 21, 26, 27, 28, 12, 29, 14, 30, 31, 32, 33, 34, 35, 36, 37, 15, 38, 39, 40, 6, 41, 42, 43, 44, 45, 46, 47, 48, 4, 5, 7, 8, 49, 50, 51, 52, 53, 54, 55, 56, 57, 58, 59, 60, 61, 62, 63, 64, 65, 66, 67, 68, 69, 20, 88, 89, 90, 91, 92, 93, 94, 95, 96, 82, 83, 84, 85, 86, 87] (by decide +kernel) (by decide +kernel)
set_option maxRecDepth 20000 in
theorem gX6_free_X5_settleBy : GoodIn wsX6_free (wsV RX6 179 RX5 yX5_settleBy wsX5_settleBy) := goodIn_app (goodIn_of _ (by decide +kernel)) ggX6_free_X5_settleBy
set_option maxRecDepth 20000 in
theorem ggX6_free_X5_firstOut : GoodIn wsX6_free wsX5_firstOut := goodIn_r _ [73, 34, 88, 89, 90, 91, 92, 93, 94, 95, 96] (by decide +kernel) (by decide +kernel)
set_option maxRecDepth 20000 in
theorem gX6_free_X5_firstOut : GoodIn wsX6_free (wsV RX6 182 RX5 yX5_firstOut wsX5_firstOut) := goodIn_app (goodIn_of _ (by decide +kernel)) ggX6_free_X5_firstOut
theorem dX6_free_0 : decode cX6_free 0 = .ok (.aload_n 0, 1) := by decide +kernel
theorem dX6_free_1 : decode cX6_free 1 = .ok (.getfield 35, 3) := by decide +kernel
theorem dX6_free_4 : decode cX6_free 4 = .ok (.iload_n 1, 1) := by decide +kernel
theorem dX6_free_5 : decode cX6_free 5 = .ok (.invokevirtual 96, 3) := by decide +kernel
theorem dX6_free_8 : decode cX6_free 8 = .ok (.ifCond .eq 14, 3) := by decide +kernel
theorem dX6_free_11 : decode cX6_free 11 = .ok (.aload_n 0, 1) := by decide +kernel
theorem dX6_free_12 : decode cX6_free 12 = .ok (.getfield 35, 3) := by decide +kernel
theorem dX6_free_15 : decode cX6_free 15 = .ok (.iload_n 2, 1) := by decide +kernel
theorem dX6_free_16 : decode cX6_free 16 = .ok (.invokevirtual 96, 3) := by decide +kernel
theorem dX6_free_19 : decode cX6_free 19 = .ok (.ifCond .ne 5, 3) := by decide +kernel
theorem dX6_free_22 : decode cX6_free 22 = .ok (.iconst (-1), 1) := by decide +kernel
theorem dX6_free_23 : decode cX6_free 23 = .ok (.ireturn, 1) := by decide +kernel
theorem dX6_free_24 : decode cX6_free 24 = .ok (.aload_n 0, 1) := by decide +kernel
theorem dX6_free_25 : decode cX6_free 25 = .ok (.getfield 27, 3) := by decide +kernel
theorem dX6_free_28 : decode cX6_free 28 = .ok (.invokevirtual 109, 3) := by decide +kernel
theorem dX6_free_31 : decode cX6_free 31 = .ok (.iconst 0, 1) := by decide +kernel
theorem dX6_free_32 : decode cX6_free 32 = .ok (.istore_n 3, 1) := by decide +kernel
theorem dX6_free_33 : decode cX6_free 33 = .ok (.iload_n 3, 1) := by decide +kernel
theorem dX6_free_34 : decode cX6_free 34 = .ok (.bipush 16, 2) := by decide +kernel
theorem dX6_free_36 : decode cX6_free 36 = .ok (.if_icmp .ge 40, 3) := by decide +kernel
theorem dX6_free_39 : decode cX6_free 39 = .ok (.aload_n 0, 1) := by decide +kernel
theorem dX6_free_40 : decode cX6_free 40 = .ok (.getfield 27, 3) := by decide +kernel
theorem dX6_free_43 : decode cX6_free 43 = .ok (.iload_n 3, 1) := by decide +kernel
theorem dX6_free_44 : decode cX6_free 44 = .ok (.invokevirtual 179, 3) := by decide +kernel
theorem dX6_free_47 : decode cX6_free 47 = .ok (.aload_n 0, 1) := by decide +kernel
theorem dX6_free_48 : decode cX6_free 48 = .ok (.getfield 27, 3) := by decide +kernel
theorem dX6_free_51 : decode cX6_free 51 = .ok (.iload_n 1, 1) := by decide +kernel
theorem dX6_free_52 : decode cX6_free 52 = .ok (.iload_n 2, 1) := by decide +kernel
theorem dX6_free_53 : decode cX6_free 53 = .ok (.invokevirtual 182, 3) := by decide +kernel
theorem dX6_free_56 : decode cX6_free 56 = .ok (.aload_n 0, 1) := by decide +kernel
theorem dX6_free_57 : decode cX6_free 57 = .ok (.getfield 27, 3) := by decide +kernel
theorem dX6_free_60 : decode cX6_free 60 = .ok (.iload_n 2, 1) := by decide +kernel
theorem dX6_free_61 : decode cX6_free 61 = .ok (.iload_n 1, 1) := by decide +kernel
theorem dX6_free_62 : decode cX6_free 62 = .ok (.invokevirtual 182, 3) := by decide +kernel
theorem dX6_free_65 : decode cX6_free 65 = .ok (.if_icmp .eq 5, 3) := by decide +kernel
theorem dX6_free_68 : decode cX6_free 68 = .ok (.iconst 0, 1) := by decide +kernel
theorem dX6_free_69 : decode cX6_free 69 = .ok (.ireturn, 1) := by decide +kernel
theorem dX6_free_70 : decode cX6_free 70 = .ok (.iinc 3 1, 3) := by decide +kernel
theorem dX6_free_73 : decode cX6_free 73 = .ok (.goto (-40), 3) := by decide +kernel
theorem dX6_free_76 : decode cX6_free 76 = .ok (.iconst 1, 1) := by decide +kernel
theorem dX6_free_77 : decode cX6_free 77 = .ok (.ireturn, 1) := by decide +kernel
set_option maxRecDepth 20000 in
theorem ggX6_plugs_X1_has : GoodIn wsX6_plugs wsX1_has := goodIn_r _ [7, 8, 78, 79, 80, 81, 82, 83] (by decide +kernel) (by decide +kernel)
set_option maxRecDepth 20000 in
theorem gX6_plugs_X1_has : GoodIn wsX6_plugs (wsV RX6 96 RX1 yX1_has wsX1_has) := goodIn_app (goodIn_of _ (by decide +kernel)) ggX6_plugs_X1_has
set_option maxRecDepth 20000 in
theorem ggX6_plugs_X5_begin : GoodIn wsX6_plugs wsX5_begin := goodIn_r _ [13, 14, 15, 16, 17, 18, 19, 20, 21, 84, 85, 86, 87, 88, 89, 90, 91, 92, 78, 79, 80, 81, 82, 83] (by decide +kernel) (by decide +kernel)
set_option maxRecDepth 20000 in
theorem gX6_plugs_X5_begin : GoodIn wsX6_plugs (wsV RX6 109 RX5 yX5_begin wsX5_begin) := goodIn_app (goodIn_of _ (by decide +kernel)) ggX6_plugs_X5_begin
set_option maxRecDepth 20000 in
theorem ggX6_plugs_X5_plugsOf : GoodIn wsX6_plugs wsX5_plugsOf := goodIn_r _ [25, 26, 27, 28, 12, 29, 30, 15, 14, 20, 31, 32, 33, 34, 35, 36, 37, 38, 39, 40, 6, 41, 42, 43, 44, 45, 46, 47, 48, 4, 5, 7, 8, 49, 50, 51, 52, 53, 54, 55, 56, 57, 21, 58, 59, 60, 61, 62, 63, 64, 65, 66, 67, 68, 69, 84, 85, 86, 87, 88, 89, 90, 91, 92, 78, 79, 80, 81, 82, 83] (by decide +kernel) (by decide +kernel)
set_option maxRecDepth 20000 in
theorem gX6_plugs_X5_plugsOf : GoodIn wsX6_plugs (wsV RX6 185 RX5 yX5_plugsOf wsX5_plugsOf) := goodIn_app (goodIn_of _ (by decide +kernel)) ggX6_plugs_X5_plugsOf
theorem dX6_plugs_0 : decode cX6_plugs 0 = .ok (.aload_n 0, 1) := by decide +kernel
theorem dX6_plugs_1 : decode cX6_plugs 1 = .ok (.getfield 35, 3) := by decide +kernel
theorem dX6_plugs_4 : decode cX6_plugs 4 = .ok (.iload_n 1, 1) := by decide +kernel
theorem dX6_plugs_5 : decode cX6_plugs 5 = .ok (.invokevirtual 96, 3) := by decide +kernel
theorem dX6_plugs_8 : decode cX6_plugs 8 = .ok (.ifCond .ne 5, 3) := by decide +kernel
theorem dX6_plugs_11 : decode cX6_plugs 11 = .ok (.iconst (-1), 1) := by decide +kernel
theorem dX6_plugs_12 : decode cX6_plugs 12 = .ok (.ireturn, 1) := by decide +kernel
theorem dX6_plugs_13 : decode cX6_plugs 13 = .ok (.aload_n 0, 1) := by decide +kernel
theorem dX6_plugs_14 : decode cX6_plugs 14 = .ok (.getfield 27, 3) := by decide +kernel
theorem dX6_plugs_17 : decode cX6_plugs 17 = .ok (.invokevirtual 109, 3) := by decide +kernel
theorem dX6_plugs_20 : decode cX6_plugs 20 = .ok (.aload_n 0, 1) := by decide +kernel
theorem dX6_plugs_21 : decode cX6_plugs 21 = .ok (.getfield 27, 3) := by decide +kernel
theorem dX6_plugs_24 : decode cX6_plugs 24 = .ok (.iload_n 1, 1) := by decide +kernel
theorem dX6_plugs_25 : decode cX6_plugs 25 = .ok (.invokevirtual 185, 3) := by decide +kernel
theorem dX6_plugs_28 : decode cX6_plugs 28 = .ok (.ireturn, 1) := by decide +kernel
set_option maxRecDepth 20000 in
theorem ggX6_more_X1_has : GoodIn wsX6_more wsX1_has := goodIn_r _ [7, 8, 87, 88, 89, 90, 91, 92] (by decide +kernel) (by decide +kernel)
set_option maxRecDepth 20000 in
theorem gX6_more_X1_has : GoodIn wsX6_more (wsV RX6 96 RX1 yX1_has wsX1_has) := goodIn_app (goodIn_of _ (by decide +kernel)) ggX6_more_X1_has
set_option maxRecDepth 20000 in
theorem ggX6_more_X5_begin : GoodIn wsX6_more wsX5_begin := goodIn_r _ [13, 14, 15, 16, 17, 18, 19, 20, 21, 78, 79, 80, 81, 82, 83, 84, 85, 86, 87, 88, 89, 90, 91, 92] (by decide +kernel) (by decide +kernel)
set_option maxRecDepth 20000 in
theorem gX6_more_X5_begin : GoodIn wsX6_more (wsV RX6 109 RX5 yX5_begin wsX5_begin) := goodIn_app (goodIn_of _ (by decide +kernel)) ggX6_more_X5_begin
set_option maxRecDepth 20000 in
theorem ggX6_more_X5_settleBy : GoodIn wsX6_more wsX5_settleBy := goodIn_r _ [25, 21, 26, 27, 28, 12, 29, 14, 30, 31, 32, 33, 34, 35, 36, 37, 15, 38, 39, 40, 6, 41, 42, 43, 44, 45, 46, 47, 48, 4, 5, 7, 8, 49, 50, 51, 52, 53, 54, 55, 56, 57, 58, 59, 60, 61, 62, 63, 64, 65, 66, 67, 68, 69, 20, 78, 79, 80, 81, 82, 83, 84, 85, 86, 87, 88, 89, 90, 91, 92] (by decide +kernel) (by decide +kernel)
set_option maxRecDepth 20000 in
theorem gX6_more_X5_settleBy : GoodIn wsX6_more (wsV RX6 179 RX5 yX5_settleBy wsX5_settleBy) := goodIn_app (goodIn_of _ (by decide +kernel)) ggX6_more_X5_settleBy
theorem dX6_more_0 : decode cX6_more 0 = .ok (.aload_n 0, 1) := by decide +kernel
theorem dX6_more_1 : decode cX6_more 1 = .ok (.getfield 35, 3) := by decide +kernel
theorem dX6_more_4 : decode cX6_more 4 = .ok (.iload_n 1, 1) := by decide +kernel
theorem dX6_more_5 : decode cX6_more 5 = .ok (.invokevirtual 96, 3) := by decide +kernel
theorem dX6_more_8 : decode cX6_more 8 = .ok (.ifCond .eq 14, 3) := by decide +kernel
theorem dX6_more_11 : decode cX6_more 11 = .ok (.aload_n 0, 1) := by decide +kernel
theorem dX6_more_12 : decode cX6_more 12 = .ok (.getfield 35, 3) := by decide +kernel
theorem dX6_more_15 : decode cX6_more 15 = .ok (.iload_n 2, 1) := by decide +kernel
theorem dX6_more_16 : decode cX6_more 16 = .ok (.invokevirtual 96, 3) := by decide +kernel
theorem dX6_more_19 : decode cX6_more 19 = .ok (.ifCond .ne 5, 3) := by decide +kernel
theorem dX6_more_22 : decode cX6_more 22 = .ok (.iconst (-1), 1) := by decide +kernel
theorem dX6_more_23 : decode cX6_more 23 = .ok (.ireturn, 1) := by decide +kernel
theorem dX6_more_24 : decode cX6_more 24 = .ok (.iconst 0, 1) := by decide +kernel
theorem dX6_more_25 : decode cX6_more 25 = .ok (.istore_n 3, 1) := by decide +kernel
theorem dX6_more_26 : decode cX6_more 26 = .ok (.aload_n 0, 1) := by decide +kernel
theorem dX6_more_27 : decode cX6_more 27 = .ok (.getfield 27, 3) := by decide +kernel
theorem dX6_more_30 : decode cX6_more 30 = .ok (.invokevirtual 109, 3) := by decide +kernel
theorem dX6_more_33 : decode cX6_more 33 = .ok (.iconst 0, 1) := by decide +kernel
theorem dX6_more_34 : decode cX6_more 34 = .ok (.istore 4, 2) := by decide +kernel
theorem dX6_more_36 : decode cX6_more 36 = .ok (.iload 4, 2) := by decide +kernel
theorem dX6_more_38 : decode cX6_more 38 = .ok (.bipush 16, 2) := by decide +kernel
theorem dX6_more_40 : decode cX6_more 40 = .ok (.if_icmp .ge 55, 3) := by decide +kernel
theorem dX6_more_43 : decode cX6_more 43 = .ok (.aload_n 0, 1) := by decide +kernel
theorem dX6_more_44 : decode cX6_more 44 = .ok (.getfield 27, 3) := by decide +kernel
theorem dX6_more_47 : decode cX6_more 47 = .ok (.iload 4, 2) := by decide +kernel
theorem dX6_more_49 : decode cX6_more 49 = .ok (.invokevirtual 179, 3) := by decide +kernel
theorem dX6_more_52 : decode cX6_more 52 = .ok (.aload_n 0, 1) := by decide +kernel
theorem dX6_more_53 : decode cX6_more 53 = .ok (.getfield 27, 3) := by decide +kernel
theorem dX6_more_56 : decode cX6_more 56 = .ok (.getfield 146, 3) := by decide +kernel
theorem dX6_more_59 : decode cX6_more 59 = .ok (.iload_n 1, 1) := by decide +kernel
theorem dX6_more_60 : decode cX6_more 60 = .ok (.iaload, 1) := by decide +kernel
theorem dX6_more_61 : decode cX6_more 61 = .ok (.iconst 4, 1) := by decide +kernel
theorem dX6_more_62 : decode cX6_more 62 = .ok (.if_icmp .eq 27, 3) := by decide +kernel
theorem dX6_more_65 : decode cX6_more 65 = .ok (.aload_n 0, 1) := by decide +kernel
theorem dX6_more_66 : decode cX6_more 66 = .ok (.getfield 27, 3) := by decide +kernel
theorem dX6_more_69 : decode cX6_more 69 = .ok (.getfield 146, 3) := by decide +kernel
theorem dX6_more_72 : decode cX6_more 72 = .ok (.iload_n 2, 1) := by decide +kernel
theorem dX6_more_73 : decode cX6_more 73 = .ok (.iaload, 1) := by decide +kernel
theorem dX6_more_74 : decode cX6_more 74 = .ok (.aload_n 0, 1) := by decide +kernel
theorem dX6_more_75 : decode cX6_more 75 = .ok (.getfield 27, 3) := by decide +kernel
theorem dX6_more_78 : decode cX6_more 78 = .ok (.getfield 146, 3) := by decide +kernel
theorem dX6_more_81 : decode cX6_more 81 = .ok (.iload_n 1, 1) := by decide +kernel
theorem dX6_more_82 : decode cX6_more 82 = .ok (.iaload, 1) := by decide +kernel
theorem dX6_more_83 : decode cX6_more 83 = .ok (.if_icmp .eq 6, 3) := by decide +kernel
theorem dX6_more_86 : decode cX6_more 86 = .ok (.iinc 3 1, 3) := by decide +kernel
theorem dX6_more_89 : decode cX6_more 89 = .ok (.iinc 4 1, 3) := by decide +kernel
theorem dX6_more_92 : decode cX6_more 92 = .ok (.goto (-56), 3) := by decide +kernel
theorem dX6_more_95 : decode cX6_more 95 = .ok (.iload_n 3, 1) := by decide +kernel
theorem dX6_more_96 : decode cX6_more 96 = .ok (.ireturn, 1) := by decide +kernel
set_option maxRecDepth 20000 in
theorem ggX6_reading_X1_has : GoodIn wsX6_reading wsX1_has := goodIn_r _ [7, 8, 29, 30, 31, 32, 33, 34] (by decide +kernel) (by decide +kernel)
set_option maxRecDepth 20000 in
theorem gX6_reading_X1_has : GoodIn wsX6_reading (wsV RX6 96 RX1 yX1_has wsX1_has) := goodIn_app (goodIn_of _ (by decide +kernel)) ggX6_reading_X1_has
set_option maxRecDepth 20000 in
theorem ggX6_reading_X6_isOut : GoodIn wsX6_reading wsX6_isOut := goodIn_r _ [12] (by decide +kernel) (by decide +kernel)
set_option maxRecDepth 20000 in
theorem gX6_reading_X6_isOut : GoodIn wsX6_reading (va_wsS RX6 188 yX6_isOut wsX6_isOut) := goodIn_app (goodIn_of _ (by decide +kernel)) ggX6_reading_X6_isOut
set_option maxRecDepth 20000 in
theorem ggX6_reading_X2_add : GoodIn wsX6_reading wsX2_add := goodIn_r _ [17, 18, 19, 20, 35, 36, 37] (by decide +kernel) (by decide +kernel)
set_option maxRecDepth 20000 in
theorem gX6_reading_X2_add : GoodIn wsX6_reading (wsV RX6 191 RX2 yX2_add wsX2_add) := goodIn_app (goodIn_of _ (by decide +kernel)) ggX6_reading_X2_add
theorem dX6_reading_0 : decode cX6_reading 0 = .ok (.aload_n 0, 1) := by decide +kernel
theorem dX6_reading_1 : decode cX6_reading 1 = .ok (.getfield 35, 3) := by decide +kernel
theorem dX6_reading_4 : decode cX6_reading 4 = .ok (.iload_n 1, 1) := by decide +kernel
theorem dX6_reading_5 : decode cX6_reading 5 = .ok (.invokevirtual 96, 3) := by decide +kernel
theorem dX6_reading_8 : decode cX6_reading 8 = .ok (.ifCond .ne 5, 3) := by decide +kernel
theorem dX6_reading_11 : decode cX6_reading 11 = .ok (.iconst (-1), 1) := by decide +kernel
theorem dX6_reading_12 : decode cX6_reading 12 = .ok (.ireturn, 1) := by decide +kernel
theorem dX6_reading_13 : decode cX6_reading 13 = .ok (.iload_n 2, 1) := by decide +kernel
theorem dX6_reading_14 : decode cX6_reading 14 = .ok (.invokestatic 188, 3) := by decide +kernel
theorem dX6_reading_17 : decode cX6_reading 17 = .ok (.ifCond .ne 6, 3) := by decide +kernel
theorem dX6_reading_20 : decode cX6_reading 20 = .ok (.bipush (-2), 2) := by decide +kernel
theorem dX6_reading_22 : decode cX6_reading 22 = .ok (.ireturn, 1) := by decide +kernel
theorem dX6_reading_23 : decode cX6_reading 23 = .ok (.aload_n 0, 1) := by decide +kernel
theorem dX6_reading_24 : decode cX6_reading 24 = .ok (.getfield 48, 3) := by decide +kernel
theorem dX6_reading_27 : decode cX6_reading 27 = .ok (.iload_n 1, 1) := by decide +kernel
theorem dX6_reading_28 : decode cX6_reading 28 = .ok (.iload_n 2, 1) := by decide +kernel
theorem dX6_reading_29 : decode cX6_reading 29 = .ok (.invokevirtual 191, 3) := by decide +kernel
theorem dX6_reading_32 : decode cX6_reading 32 = .ok (.ireturn, 1) := by decide +kernel
set_option maxRecDepth 20000 in
theorem ggX6_back_X2_takeBack : GoodIn wsX6_back wsX2_takeBack := goodIn_r _ [6, 7, 8, 9, 10, 11, 20, 21, 22] (by decide +kernel) (by decide +kernel)
set_option maxRecDepth 20000 in
theorem gX6_back_X2_takeBack : GoodIn wsX6_back (wsV RX6 91 RX2 yX2_takeBack wsX2_takeBack) := goodIn_app (goodIn_of _ (by decide +kernel)) ggX6_back_X2_takeBack
theorem dX6_back_0 : decode cX6_back 0 = .ok (.iload_n 1, 1) := by decide +kernel
theorem dX6_back_1 : decode cX6_back 1 = .ok (.ifCond .lt 14, 3) := by decide +kernel
theorem dX6_back_4 : decode cX6_back 4 = .ok (.iload_n 1, 1) := by decide +kernel
theorem dX6_back_5 : decode cX6_back 5 = .ok (.aload_n 0, 1) := by decide +kernel
theorem dX6_back_6 : decode cX6_back 6 = .ok (.getfield 48, 3) := by decide +kernel
theorem dX6_back_9 : decode cX6_back 9 = .ok (.getfield 88, 3) := by decide +kernel
theorem dX6_back_12 : decode cX6_back 12 = .ok (.if_icmp .le 6, 3) := by decide +kernel
theorem dX6_back_15 : decode cX6_back 15 = .ok (.bipush (-2), 2) := by decide +kernel
theorem dX6_back_17 : decode cX6_back 17 = .ok (.ireturn, 1) := by decide +kernel
theorem dX6_back_18 : decode cX6_back 18 = .ok (.aload_n 0, 1) := by decide +kernel
theorem dX6_back_19 : decode cX6_back 19 = .ok (.getfield 48, 3) := by decide +kernel
theorem dX6_back_22 : decode cX6_back 22 = .ok (.iload_n 1, 1) := by decide +kernel
theorem dX6_back_23 : decode cX6_back 23 = .ok (.invokevirtual 91, 3) := by decide +kernel
theorem dX6_back_26 : decode cX6_back 26 = .ok (.aload_n 0, 1) := by decide +kernel
theorem dX6_back_27 : decode cX6_back 27 = .ok (.getfield 48, 3) := by decide +kernel
theorem dX6_back_30 : decode cX6_back 30 = .ok (.getfield 88, 3) := by decide +kernel
theorem dX6_back_33 : decode cX6_back 33 = .ok (.ireturn, 1) := by decide +kernel
set_option maxRecDepth 20000 in
theorem ggX6_kinds_X1_has : GoodIn wsX6_kinds wsX1_has := goodIn_r _ [8, 9, 93, 94, 95, 96, 97, 98] (by decide +kernel) (by decide +kernel)
set_option maxRecDepth 20000 in
theorem gX6_kinds_X1_has : GoodIn wsX6_kinds (wsV RX6 96 RX1 yX1_has wsX1_has) := goodIn_app (goodIn_of _ (by decide +kernel)) ggX6_kinds_X1_has
set_option maxRecDepth 20000 in
theorem ggX6_kinds_X5_begin : GoodIn wsX6_kinds wsX5_begin := goodIn_r _ [14, 15, 16, 17, 18, 19, 20, 21, 22, 84, 85, 86, 87, 88, 89, 90, 91, 92, 93, 94, 95, 96, 97, 98] (by decide +kernel) (by decide +kernel)
set_option maxRecDepth 20000 in
theorem gX6_kinds_X5_begin : GoodIn wsX6_kinds (wsV RX6 109 RX5 yX5_begin wsX5_begin) := goodIn_app (goodIn_of _ (by decide +kernel)) ggX6_kinds_X5_begin
set_option maxRecDepth 20000 in
theorem ggX6_kinds_X2_areSo : GoodIn wsX6_kinds wsX2_areSo := goodIn_r _ [27, 28, 29, 30, 31, 32, 33, 13, 34, 15, 35, 36, 37, 38, 39, 40, 41, 42, 16, 43, 44, 45, 7, 46, 47, 48, 49, 50, 51, 52, 53, 5, 6, 8, 9, 54, 55, 56, 57, 58, 59, 60, 61, 62, 22, 63, 64, 65, 66, 67, 68, 69, 70, 71, 72, 73, 74, 21, 75, 99, 100, 101, 84, 85, 86, 87, 88, 89, 90, 91, 92, 93, 94, 95, 96, 97, 98] (by decide +kernel) (by decide +kernel)
set_option maxRecDepth 20000 in
theorem gX6_kinds_X2_areSo : GoodIn wsX6_kinds (wsV RX6 195 RX2 yX2_areSo wsX2_areSo) := goodIn_app (goodIn_of _ (by decide +kernel)) ggX6_kinds_X2_areSo
theorem dX6_kinds_0 : decode cX6_kinds 0 = .ok (.aload_n 0, 1) := by decide +kernel
theorem dX6_kinds_1 : decode cX6_kinds 1 = .ok (.getfield 35, 3) := by decide +kernel
theorem dX6_kinds_4 : decode cX6_kinds 4 = .ok (.iload_n 1, 1) := by decide +kernel
theorem dX6_kinds_5 : decode cX6_kinds 5 = .ok (.invokevirtual 96, 3) := by decide +kernel
theorem dX6_kinds_8 : decode cX6_kinds 8 = .ok (.ifCond .ne 5, 3) := by decide +kernel
theorem dX6_kinds_11 : decode cX6_kinds 11 = .ok (.iconst (-1), 1) := by decide +kernel
theorem dX6_kinds_12 : decode cX6_kinds 12 = .ok (.ireturn, 1) := by decide +kernel
theorem dX6_kinds_13 : decode cX6_kinds 13 = .ok (.iconst 0, 1) := by decide +kernel
theorem dX6_kinds_14 : decode cX6_kinds 14 = .ok (.istore_n 2, 1) := by decide +kernel
theorem dX6_kinds_15 : decode cX6_kinds 15 = .ok (.aload_n 0, 1) := by decide +kernel
theorem dX6_kinds_16 : decode cX6_kinds 16 = .ok (.getfield 27, 3) := by decide +kernel
theorem dX6_kinds_19 : decode cX6_kinds 19 = .ok (.invokevirtual 109, 3) := by decide +kernel
theorem dX6_kinds_22 : decode cX6_kinds 22 = .ok (.iconst 0, 1) := by decide +kernel
theorem dX6_kinds_23 : decode cX6_kinds 23 = .ok (.istore_n 3, 1) := by decide +kernel
theorem dX6_kinds_24 : decode cX6_kinds 24 = .ok (.iload_n 3, 1) := by decide +kernel
theorem dX6_kinds_25 : decode cX6_kinds 25 = .ok (.iconst 3, 1) := by decide +kernel
theorem dX6_kinds_26 : decode cX6_kinds 26 = .ok (.if_icmp .ge 39, 3) := by decide +kernel
theorem dX6_kinds_29 : decode cX6_kinds 29 = .ok (.aload_n 0, 1) := by decide +kernel
theorem dX6_kinds_30 : decode cX6_kinds 30 = .ok (.getfield 27, 3) := by decide +kernel
theorem dX6_kinds_33 : decode cX6_kinds 33 = .ok (.getfield 194, 3) := by decide +kernel
theorem dX6_kinds_36 : decode cX6_kinds 36 = .ok (.iload_n 1, 1) := by decide +kernel
theorem dX6_kinds_37 : decode cX6_kinds 37 = .ok (.iload_n 3, 1) := by decide +kernel
theorem dX6_kinds_38 : decode cX6_kinds 38 = .ok (.iastore, 1) := by decide +kernel
theorem dX6_kinds_39 : decode cX6_kinds 39 = .ok (.aload_n 0, 1) := by decide +kernel
theorem dX6_kinds_40 : decode cX6_kinds 40 = .ok (.getfield 48, 3) := by decide +kernel
theorem dX6_kinds_43 : decode cX6_kinds 43 = .ok (.aload_n 0, 1) := by decide +kernel
theorem dX6_kinds_44 : decode cX6_kinds 44 = .ok (.getfield 27, 3) := by decide +kernel
theorem dX6_kinds_47 : decode cX6_kinds 47 = .ok (.invokevirtual 195, 3) := by decide +kernel
theorem dX6_kinds_50 : decode cX6_kinds 50 = .ok (.ifCond .eq 9, 3) := by decide +kernel
theorem dX6_kinds_53 : decode cX6_kinds 53 = .ok (.iload_n 2, 1) := by decide +kernel
theorem dX6_kinds_54 : decode cX6_kinds 54 = .ok (.iconst 1, 1) := by decide +kernel
theorem dX6_kinds_55 : decode cX6_kinds 55 = .ok (.iload_n 3, 1) := by decide +kernel
theorem dX6_kinds_56 : decode cX6_kinds 56 = .ok (.ishl, 1) := by decide +kernel
theorem dX6_kinds_57 : decode cX6_kinds 57 = .ok (.ior, 1) := by decide +kernel
theorem dX6_kinds_58 : decode cX6_kinds 58 = .ok (.istore_n 2, 1) := by decide +kernel
theorem dX6_kinds_59 : decode cX6_kinds 59 = .ok (.iinc 3 1, 3) := by decide +kernel
theorem dX6_kinds_62 : decode cX6_kinds 62 = .ok (.goto (-38), 3) := by decide +kernel
theorem dX6_kinds_65 : decode cX6_kinds 65 = .ok (.iload_n 2, 1) := by decide +kernel
theorem dX6_kinds_66 : decode cX6_kinds 66 = .ok (.ireturn, 1) := by decide +kernel
set_option maxRecDepth 20000 in
theorem ggX6_guards_X1_has : GoodIn wsX6_guards wsX1_has := goodIn_r _ [8, 9, 93, 94, 95, 96, 97, 98] (by decide +kernel) (by decide +kernel)
set_option maxRecDepth 20000 in
theorem gX6_guards_X1_has : GoodIn wsX6_guards (wsV RX6 96 RX1 yX1_has wsX1_has) := goodIn_app (goodIn_of _ (by decide +kernel)) ggX6_guards_X1_has
set_option maxRecDepth 20000 in
theorem ggX6_guards_X5_begin : GoodIn wsX6_guards wsX5_begin := goodIn_r _ [14, 15, 16, 17, 18, 19, 20, 21, 22, 84, 85, 86, 87, 88, 89, 90, 91, 92, 93, 94, 95, 96, 97, 98] (by decide +kernel) (by decide +kernel)
set_option maxRecDepth 20000 in
theorem gX6_guards_X5_begin : GoodIn wsX6_guards (wsV RX6 109 RX5 yX5_begin wsX5_begin) := goodIn_app (goodIn_of _ (by decide +kernel)) ggX6_guards_X5_begin
set_option maxRecDepth 20000 in
theorem ggX6_guards_X2_areSo : GoodIn wsX6_guards wsX2_areSo := goodIn_r _ [27, 28, 29, 30, 31, 32, 33, 13, 34, 15, 35, 36, 37, 38, 39, 40, 41, 42, 16, 43, 44, 45, 7, 46, 47, 48, 49, 50, 51, 52, 53, 5, 6, 8, 9, 54, 55, 56, 57, 58, 59, 60, 61, 62, 22, 63, 64, 65, 66, 67, 68, 69, 70, 71, 72, 73, 74, 21, 75, 99, 100, 101, 84, 85, 86, 87, 88, 89, 90, 91, 92, 93, 94, 95, 96, 97, 98] (by decide +kernel) (by decide +kernel)
set_option maxRecDepth 20000 in
theorem gX6_guards_X2_areSo : GoodIn wsX6_guards (wsV RX6 195 RX2 yX2_areSo wsX2_areSo) := goodIn_app (goodIn_of _ (by decide +kernel)) ggX6_guards_X2_areSo
theorem dX6_guards_0 : decode cX6_guards 0 = .ok (.aload_n 0, 1) := by decide +kernel
theorem dX6_guards_1 : decode cX6_guards 1 = .ok (.getfield 35, 3) := by decide +kernel
theorem dX6_guards_4 : decode cX6_guards 4 = .ok (.iload_n 1, 1) := by decide +kernel
theorem dX6_guards_5 : decode cX6_guards 5 = .ok (.invokevirtual 96, 3) := by decide +kernel
theorem dX6_guards_8 : decode cX6_guards 8 = .ok (.ifCond .ne 5, 3) := by decide +kernel
theorem dX6_guards_11 : decode cX6_guards 11 = .ok (.iconst (-1), 1) := by decide +kernel
theorem dX6_guards_12 : decode cX6_guards 12 = .ok (.ireturn, 1) := by decide +kernel
theorem dX6_guards_13 : decode cX6_guards 13 = .ok (.iconst 0, 1) := by decide +kernel
theorem dX6_guards_14 : decode cX6_guards 14 = .ok (.istore_n 2, 1) := by decide +kernel
theorem dX6_guards_15 : decode cX6_guards 15 = .ok (.aload_n 0, 1) := by decide +kernel
theorem dX6_guards_16 : decode cX6_guards 16 = .ok (.getfield 27, 3) := by decide +kernel
theorem dX6_guards_19 : decode cX6_guards 19 = .ok (.invokevirtual 109, 3) := by decide +kernel
theorem dX6_guards_22 : decode cX6_guards 22 = .ok (.iconst 0, 1) := by decide +kernel
theorem dX6_guards_23 : decode cX6_guards 23 = .ok (.istore_n 3, 1) := by decide +kernel
theorem dX6_guards_24 : decode cX6_guards 24 = .ok (.iload_n 3, 1) := by decide +kernel
theorem dX6_guards_25 : decode cX6_guards 25 = .ok (.iconst 4, 1) := by decide +kernel
theorem dX6_guards_26 : decode cX6_guards 26 = .ok (.if_icmp .ge 39, 3) := by decide +kernel
theorem dX6_guards_29 : decode cX6_guards 29 = .ok (.aload_n 0, 1) := by decide +kernel
theorem dX6_guards_30 : decode cX6_guards 30 = .ok (.getfield 27, 3) := by decide +kernel
theorem dX6_guards_33 : decode cX6_guards 33 = .ok (.getfield 199, 3) := by decide +kernel
theorem dX6_guards_36 : decode cX6_guards 36 = .ok (.iload_n 1, 1) := by decide +kernel
theorem dX6_guards_37 : decode cX6_guards 37 = .ok (.iload_n 3, 1) := by decide +kernel
theorem dX6_guards_38 : decode cX6_guards 38 = .ok (.iastore, 1) := by decide +kernel
theorem dX6_guards_39 : decode cX6_guards 39 = .ok (.aload_n 0, 1) := by decide +kernel
theorem dX6_guards_40 : decode cX6_guards 40 = .ok (.getfield 48, 3) := by decide +kernel
theorem dX6_guards_43 : decode cX6_guards 43 = .ok (.aload_n 0, 1) := by decide +kernel
theorem dX6_guards_44 : decode cX6_guards 44 = .ok (.getfield 27, 3) := by decide +kernel
theorem dX6_guards_47 : decode cX6_guards 47 = .ok (.invokevirtual 195, 3) := by decide +kernel
theorem dX6_guards_50 : decode cX6_guards 50 = .ok (.ifCond .eq 9, 3) := by decide +kernel
theorem dX6_guards_53 : decode cX6_guards 53 = .ok (.iload_n 2, 1) := by decide +kernel
theorem dX6_guards_54 : decode cX6_guards 54 = .ok (.iconst 1, 1) := by decide +kernel
theorem dX6_guards_55 : decode cX6_guards 55 = .ok (.iload_n 3, 1) := by decide +kernel
theorem dX6_guards_56 : decode cX6_guards 56 = .ok (.ishl, 1) := by decide +kernel
theorem dX6_guards_57 : decode cX6_guards 57 = .ok (.ior, 1) := by decide +kernel
theorem dX6_guards_58 : decode cX6_guards 58 = .ok (.istore_n 2, 1) := by decide +kernel
theorem dX6_guards_59 : decode cX6_guards 59 = .ok (.iinc 3 1, 3) := by decide +kernel
theorem dX6_guards_62 : decode cX6_guards 62 = .ok (.goto (-38), 3) := by decide +kernel
theorem dX6_guards_65 : decode cX6_guards 65 = .ok (.iload_n 2, 1) := by decide +kernel
theorem dX6_guards_66 : decode cX6_guards 66 = .ok (.ireturn, 1) := by decide +kernel
set_option maxRecDepth 20000 in
theorem ggX6_lives_X1_isNone : GoodIn wsX6_lives wsX1_isNone := goodIn_r _ [8, 9, 96, 97, 98, 99, 100, 101] (by decide +kernel) (by decide +kernel)
set_option maxRecDepth 20000 in
theorem gX6_lives_X1_isNone : GoodIn wsX6_lives (wsV RX6 136 RX1 yX1_isNone wsX1_isNone) := goodIn_app (goodIn_of _ (by decide +kernel)) ggX6_lives_X1_isNone
set_option maxRecDepth 20000 in
theorem ggX6_lives_X5_begin : GoodIn wsX6_lives wsX5_begin := goodIn_r _ [14, 15, 16, 17, 18, 19, 20, 21, 22, 87, 88, 89, 90, 91, 92, 93, 94, 95, 96, 97, 98, 99, 100, 101] (by decide +kernel) (by decide +kernel)
set_option maxRecDepth 20000 in
theorem gX6_lives_X5_begin : GoodIn wsX6_lives (wsV RX6 109 RX5 yX5_begin wsX5_begin) := goodIn_app (goodIn_of _ (by decide +kernel)) ggX6_lives_X5_begin
set_option maxRecDepth 20000 in
theorem ggX6_lives_X2_areSo : GoodIn wsX6_lives wsX2_areSo := goodIn_r _ [27, 28, 29, 30, 31, 32, 33, 13, 34, 15, 35, 36, 37, 38, 39, 40, 41, 42, 16, 43, 44, 45, 7, 46, 47, 48, 49, 50, 51, 52, 53, 54, 55, 56, 9, 57, 58, 59, 60, 61, 62, 63, 64, 65, 22, 66, 67, 68, 69, 70, 71, 72, 73, 74, 75, 76, 77, 21, 78, 102, 103, 104, 87, 88, 89, 90, 91, 92, 93, 94, 95, 96, 97, 98, 99, 100, 101] (by decide +kernel) (by decide +kernel)
set_option maxRecDepth 20000 in
theorem gX6_lives_X2_areSo : GoodIn wsX6_lives (wsV RX6 195 RX2 yX2_areSo wsX2_areSo) := goodIn_app (goodIn_of _ (by decide +kernel)) ggX6_lives_X2_areSo
theorem dX6_lives_0 : decode cX6_lives 0 = .ok (.aload_n 0, 1) := by decide +kernel
theorem dX6_lives_1 : decode cX6_lives 1 = .ok (.getfield 35, 3) := by decide +kernel
theorem dX6_lives_4 : decode cX6_lives 4 = .ok (.invokevirtual 136, 3) := by decide +kernel
theorem dX6_lives_7 : decode cX6_lives 7 = .ok (.ifCond .eq 6, 3) := by decide +kernel
theorem dX6_lives_10 : decode cX6_lives 10 = .ok (.bipush (-3), 2) := by decide +kernel
theorem dX6_lives_12 : decode cX6_lives 12 = .ok (.ireturn, 1) := by decide +kernel
theorem dX6_lives_13 : decode cX6_lives 13 = .ok (.iconst 0, 1) := by decide +kernel
theorem dX6_lives_14 : decode cX6_lives 14 = .ok (.istore_n 1, 1) := by decide +kernel
theorem dX6_lives_15 : decode cX6_lives 15 = .ok (.aload_n 0, 1) := by decide +kernel
theorem dX6_lives_16 : decode cX6_lives 16 = .ok (.getfield 27, 3) := by decide +kernel
theorem dX6_lives_19 : decode cX6_lives 19 = .ok (.invokevirtual 109, 3) := by decide +kernel
theorem dX6_lives_22 : decode cX6_lives 22 = .ok (.iconst 0, 1) := by decide +kernel
theorem dX6_lives_23 : decode cX6_lives 23 = .ok (.istore_n 2, 1) := by decide +kernel
theorem dX6_lives_24 : decode cX6_lives 24 = .ok (.iload_n 2, 1) := by decide +kernel
theorem dX6_lives_25 : decode cX6_lives 25 = .ok (.bipush 16, 2) := by decide +kernel
theorem dX6_lives_27 : decode cX6_lives 27 = .ok (.if_icmp .ge 37, 3) := by decide +kernel
theorem dX6_lives_30 : decode cX6_lives 30 = .ok (.aload_n 0, 1) := by decide +kernel
theorem dX6_lives_31 : decode cX6_lives 31 = .ok (.getfield 27, 3) := by decide +kernel
theorem dX6_lives_34 : decode cX6_lives 34 = .ok (.iload_n 2, 1) := by decide +kernel
theorem dX6_lives_35 : decode cX6_lives 35 = .ok (.putfield 200, 3) := by decide +kernel
theorem dX6_lives_38 : decode cX6_lives 38 = .ok (.aload_n 0, 1) := by decide +kernel
theorem dX6_lives_39 : decode cX6_lives 39 = .ok (.getfield 48, 3) := by decide +kernel
theorem dX6_lives_42 : decode cX6_lives 42 = .ok (.aload_n 0, 1) := by decide +kernel
theorem dX6_lives_43 : decode cX6_lives 43 = .ok (.getfield 27, 3) := by decide +kernel
theorem dX6_lives_46 : decode cX6_lives 46 = .ok (.invokevirtual 195, 3) := by decide +kernel
theorem dX6_lives_49 : decode cX6_lives 49 = .ok (.ifCond .eq 9, 3) := by decide +kernel
theorem dX6_lives_52 : decode cX6_lives 52 = .ok (.iload_n 1, 1) := by decide +kernel
theorem dX6_lives_53 : decode cX6_lives 53 = .ok (.iconst 1, 1) := by decide +kernel
theorem dX6_lives_54 : decode cX6_lives 54 = .ok (.iload_n 2, 1) := by decide +kernel
theorem dX6_lives_55 : decode cX6_lives 55 = .ok (.ishl, 1) := by decide +kernel
theorem dX6_lives_56 : decode cX6_lives 56 = .ok (.ior, 1) := by decide +kernel
theorem dX6_lives_57 : decode cX6_lives 57 = .ok (.istore_n 1, 1) := by decide +kernel
theorem dX6_lives_58 : decode cX6_lives 58 = .ok (.iinc 2 1, 3) := by decide +kernel
theorem dX6_lives_61 : decode cX6_lives 61 = .ok (.goto (-37), 3) := by decide +kernel
theorem dX6_lives_64 : decode cX6_lives 64 = .ok (.iload_n 1, 1) := by decide +kernel
theorem dX6_lives_65 : decode cX6_lives 65 = .ok (.ireturn, 1) := by decide +kernel
set_option maxRecDepth 20000 in
theorem ggX6_odds_X1_has : GoodIn wsX6_odds wsX1_has := goodIn_r _ [8, 9, 87, 88, 89, 90, 91, 92] (by decide +kernel) (by decide +kernel)
set_option maxRecDepth 20000 in
theorem gX6_odds_X1_has : GoodIn wsX6_odds (wsV RX6 96 RX1 yX1_has wsX1_has) := goodIn_app (goodIn_of _ (by decide +kernel)) ggX6_odds_X1_has
set_option maxRecDepth 20000 in
theorem ggX6_odds_X6_isOut : GoodIn wsX6_odds wsX6_isOut := goodIn_r _ [13] (by decide +kernel) (by decide +kernel)
set_option maxRecDepth 20000 in
theorem gX6_odds_X6_isOut : GoodIn wsX6_odds (va_wsS RX6 188 yX6_isOut wsX6_isOut) := goodIn_app (goodIn_of _ (by decide +kernel)) ggX6_odds_X6_isOut
set_option maxRecDepth 20000 in
theorem ggX6_odds_X5_begin : GoodIn wsX6_odds wsX5_begin := goodIn_r _ [18, 19, 20, 21, 22, 23, 24, 25, 26, 93, 94, 95, 96, 97, 98, 99, 100, 101, 87, 88, 89, 90, 91, 92] (by decide +kernel) (by decide +kernel)
set_option maxRecDepth 20000 in
theorem gX6_odds_X5_begin : GoodIn wsX6_odds (wsV RX6 109 RX5 yX5_begin wsX5_begin) := goodIn_app (goodIn_of _ (by decide +kernel)) ggX6_odds_X5_begin
set_option maxRecDepth 20000 in
theorem ggX6_odds_X5_setsThatLetOut : GoodIn wsX6_odds wsX5_setsThatLetOut := goodIn_r _ [30, 31, 32, 33, 34, 17, 35, 26, 36, 37, 38, 39, 19, 40, 41, 42, 43, 44, 45, 46, 20, 47, 48, 49, 7, 50, 51, 52, 53, 54, 55, 56, 57, 5, 6, 8, 9, 58, 59, 60, 61, 62, 63, 64, 65, 66, 67, 68, 69, 70, 71, 72, 73, 74, 75, 76, 77, 78, 25, 93, 94, 95, 96, 97, 98, 99, 100, 101, 87, 88, 89, 90, 91, 92] (by decide +kernel) (by decide +kernel)
set_option maxRecDepth 20000 in
theorem gX6_odds_X5_setsThatLetOut : GoodIn wsX6_odds (wsV RX6 203 RX5 yX5_setsThatLetOut wsX5_setsThatLetOut) := goodIn_app (goodIn_of _ (by decide +kernel)) ggX6_odds_X5_setsThatLetOut
theorem dX6_odds_0 : decode cX6_odds 0 = .ok (.aload_n 0, 1) := by decide +kernel
theorem dX6_odds_1 : decode cX6_odds 1 = .ok (.getfield 35, 3) := by decide +kernel
theorem dX6_odds_4 : decode cX6_odds 4 = .ok (.iload_n 1, 1) := by decide +kernel
theorem dX6_odds_5 : decode cX6_odds 5 = .ok (.invokevirtual 96, 3) := by decide +kernel
theorem dX6_odds_8 : decode cX6_odds 8 = .ok (.ifCond .eq 19, 3) := by decide +kernel
theorem dX6_odds_11 : decode cX6_odds 11 = .ok (.iload_n 2, 1) := by decide +kernel
theorem dX6_odds_12 : decode cX6_odds 12 = .ok (.invokestatic 188, 3) := by decide +kernel
theorem dX6_odds_15 : decode cX6_odds 15 = .ok (.ifCond .eq 12, 3) := by decide +kernel
theorem dX6_odds_18 : decode cX6_odds 18 = .ok (.iload_n 3, 1) := by decide +kernel
theorem dX6_odds_19 : decode cX6_odds 19 = .ok (.ifCond .lt 8, 3) := by decide +kernel
theorem dX6_odds_22 : decode cX6_odds 22 = .ok (.iload_n 3, 1) := by decide +kernel
theorem dX6_odds_23 : decode cX6_odds 23 = .ok (.iconst 1, 1) := by decide +kernel
theorem dX6_odds_24 : decode cX6_odds 24 = .ok (.if_icmp .le 7, 3) := by decide +kernel
theorem dX6_odds_27 : decode cX6_odds 27 = .ok (.ldc2_w 201, 3) := by decide +kernel
theorem dX6_odds_30 : decode cX6_odds 30 = .ok (.lreturn, 1) := by decide +kernel
theorem dX6_odds_31 : decode cX6_odds 31 = .ok (.aload_n 0, 1) := by decide +kernel
theorem dX6_odds_32 : decode cX6_odds 32 = .ok (.getfield 27, 3) := by decide +kernel
theorem dX6_odds_35 : decode cX6_odds 35 = .ok (.invokevirtual 109, 3) := by decide +kernel
theorem dX6_odds_38 : decode cX6_odds 38 = .ok (.aload_n 0, 1) := by decide +kernel
theorem dX6_odds_39 : decode cX6_odds 39 = .ok (.getfield 27, 3) := by decide +kernel
theorem dX6_odds_42 : decode cX6_odds 42 = .ok (.iload_n 1, 1) := by decide +kernel
theorem dX6_odds_43 : decode cX6_odds 43 = .ok (.iload_n 2, 1) := by decide +kernel
theorem dX6_odds_44 : decode cX6_odds 44 = .ok (.invokevirtual 203, 3) := by decide +kernel
theorem dX6_odds_47 : decode cX6_odds 47 = .ok (.istore 4, 2) := by decide +kernel
theorem dX6_odds_49 : decode cX6_odds 49 = .ok (.bipush 16, 2) := by decide +kernel
theorem dX6_odds_51 : decode cX6_odds 51 = .ok (.istore 5, 2) := by decide +kernel
theorem dX6_odds_53 : decode cX6_odds 53 = .ok (.iload 5, 2) := by decide +kernel
theorem dX6_odds_55 : decode cX6_odds 55 = .ok (.iconst 1, 1) := by decide +kernel
theorem dX6_odds_56 : decode cX6_odds 56 = .ok (.if_icmp .le 25, 3) := by decide +kernel
theorem dX6_odds_59 : decode cX6_odds 59 = .ok (.iload 4, 2) := by decide +kernel
theorem dX6_odds_61 : decode cX6_odds 61 = .ok (.iconst 2, 1) := by decide +kernel
theorem dX6_odds_62 : decode cX6_odds 62 = .ok (.irem, 1) := by decide +kernel
theorem dX6_odds_63 : decode cX6_odds 63 = .ok (.ifCond .ne 18, 3) := by decide +kernel
theorem dX6_odds_66 : decode cX6_odds 66 = .ok (.iload 4, 2) := by decide +kernel
theorem dX6_odds_68 : decode cX6_odds 68 = .ok (.iconst 2, 1) := by decide +kernel
theorem dX6_odds_69 : decode cX6_odds 69 = .ok (.idiv, 1) := by decide +kernel
theorem dX6_odds_70 : decode cX6_odds 70 = .ok (.istore 4, 2) := by decide +kernel
theorem dX6_odds_72 : decode cX6_odds 72 = .ok (.iload 5, 2) := by decide +kernel
theorem dX6_odds_74 : decode cX6_odds 74 = .ok (.iconst 2, 1) := by decide +kernel
theorem dX6_odds_75 : decode cX6_odds 75 = .ok (.idiv, 1) := by decide +kernel
theorem dX6_odds_76 : decode cX6_odds 76 = .ok (.istore 5, 2) := by decide +kernel
theorem dX6_odds_78 : decode cX6_odds 78 = .ok (.goto (-25), 3) := by decide +kernel
theorem dX6_odds_81 : decode cX6_odds 81 = .ok (.iload_n 3, 1) := by decide +kernel
theorem dX6_odds_82 : decode cX6_odds 82 = .ok (.ifCond .ne 9, 3) := by decide +kernel
theorem dX6_odds_85 : decode cX6_odds 85 = .ok (.iload 4, 2) := by decide +kernel
theorem dX6_odds_87 : decode cX6_odds 87 = .ok (.i2l, 1) := by decide +kernel
theorem dX6_odds_88 : decode cX6_odds 88 = .ok (.goto 6, 3) := by decide +kernel
theorem dX6_odds_91 : decode cX6_odds 91 = .ok (.iload 5, 2) := by decide +kernel
theorem dX6_odds_93 : decode cX6_odds 93 = .ok (.i2l, 1) := by decide +kernel
theorem dX6_odds_94 : decode cX6_odds 94 = .ok (.lreturn, 1) := by decide +kernel
set_option maxRecDepth 20000 in
theorem ggX6_sheet_X6_isSheet : GoodIn wsX6_sheet wsX6_isSheet := goodIn_r _ [6] (by decide +kernel) (by decide +kernel)
set_option maxRecDepth 20000 in
theorem gX6_sheet_X6_isSheet : GoodIn wsX6_sheet (va_wsS RX6 60 yX6_isSheet wsX6_isSheet) := goodIn_app (goodIn_of _ (by decide +kernel)) ggX6_sheet_X6_isSheet
set_option maxRecDepth 20000 in
theorem ggX6_sheet_X6_isLane : GoodIn wsX6_sheet wsX6_isLane := goodIn_r _ [9] (by decide +kernel) (by decide +kernel)
set_option maxRecDepth 20000 in
theorem gX6_sheet_X6_isLane : GoodIn wsX6_sheet (va_wsS RX6 64 yX6_isLane wsX6_isLane) := goodIn_app (goodIn_of _ (by decide +kernel)) ggX6_sheet_X6_isLane
set_option maxRecDepth 20000 in
theorem ggX6_sheet_X6_faulted : GoodIn wsX6_sheet wsX6_faulted := goodIn_r _ [13, 1, 26, 27, 28, 29, 30, 31, 32, 33] (by decide +kernel) (by decide +kernel)
set_option maxRecDepth 20000 in
theorem gX6_sheet_X6_faulted : GoodIn wsX6_sheet (wsV RX6 71 RX6 yX6_faulted wsX6_faulted) := goodIn_app (goodIn_of _ (by decide +kernel)) ggX6_sheet_X6_faulted
set_option maxRecDepth 20000 in
theorem ggX6_sheet_X3_renew : GoodIn wsX6_sheet wsX3_renew := goodIn_r _ [18, 19, 20, 21, 22, 23, 24, 25, 34, 35, 36] (by decide +kernel) (by decide +kernel)
set_option maxRecDepth 20000 in
theorem gX6_sheet_X3_renew : GoodIn wsX6_sheet (wsV RX6 206 RX3 yX3_renew wsX3_renew) := goodIn_app (goodIn_of _ (by decide +kernel)) ggX6_sheet_X3_renew
theorem dX6_sheet_0 : decode cX6_sheet 0 = .ok (.aload_n 0, 1) := by decide +kernel
theorem dX6_sheet_1 : decode cX6_sheet 1 = .ok (.iconst 0, 1) := by decide +kernel
theorem dX6_sheet_2 : decode cX6_sheet 2 = .ok (.putfield 52, 3) := by decide +kernel
theorem dX6_sheet_5 : decode cX6_sheet 5 = .ok (.iload_n 1, 1) := by decide +kernel
theorem dX6_sheet_6 : decode cX6_sheet 6 = .ok (.invokestatic 60, 3) := by decide +kernel
theorem dX6_sheet_9 : decode cX6_sheet 9 = .ok (.ifCond .ne 5, 3) := by decide +kernel
theorem dX6_sheet_12 : decode cX6_sheet 12 = .ok (.iconst (-1), 1) := by decide +kernel
theorem dX6_sheet_13 : decode cX6_sheet 13 = .ok (.ireturn, 1) := by decide +kernel
theorem dX6_sheet_14 : decode cX6_sheet 14 = .ok (.iload_n 2, 1) := by decide +kernel
theorem dX6_sheet_15 : decode cX6_sheet 15 = .ok (.invokestatic 64, 3) := by decide +kernel
theorem dX6_sheet_18 : decode cX6_sheet 18 = .ok (.ifCond .eq 9, 3) := by decide +kernel
theorem dX6_sheet_21 : decode cX6_sheet 21 = .ok (.iload_n 3, 1) := by decide +kernel
theorem dX6_sheet_22 : decode cX6_sheet 22 = .ok (.bipush 60, 2) := by decide +kernel
theorem dX6_sheet_24 : decode cX6_sheet 24 = .ok (.if_icmp .le 6, 3) := by decide +kernel
theorem dX6_sheet_27 : decode cX6_sheet 27 = .ok (.bipush (-2), 2) := by decide +kernel
theorem dX6_sheet_29 : decode cX6_sheet 29 = .ok (.ireturn, 1) := by decide +kernel
theorem dX6_sheet_30 : decode cX6_sheet 30 = .ok (.iload_n 3, 1) := by decide +kernel
theorem dX6_sheet_31 : decode cX6_sheet 31 = .ok (.ifCond .ge 9, 3) := by decide +kernel
theorem dX6_sheet_34 : decode cX6_sheet 34 = .ok (.aload_n 0, 1) := by decide +kernel
theorem dX6_sheet_35 : decode cX6_sheet 35 = .ok (.iconst 4, 1) := by decide +kernel
theorem dX6_sheet_36 : decode cX6_sheet 36 = .ok (.invokevirtual 71, 3) := by decide +kernel
theorem dX6_sheet_39 : decode cX6_sheet 39 = .ok (.ireturn, 1) := by decide +kernel
theorem dX6_sheet_40 : decode cX6_sheet 40 = .ok (.aload_n 0, 1) := by decide +kernel
theorem dX6_sheet_41 : decode cX6_sheet 41 = .ok (.getfield 13, 3) := by decide +kernel
theorem dX6_sheet_44 : decode cX6_sheet 44 = .ok (.iload_n 1, 1) := by decide +kernel
theorem dX6_sheet_45 : decode cX6_sheet 45 = .ok (.aaload, 1) := by decide +kernel
theorem dX6_sheet_46 : decode cX6_sheet 46 = .ok (.iload_n 2, 1) := by decide +kernel
theorem dX6_sheet_47 : decode cX6_sheet 47 = .ok (.iload_n 3, 1) := by decide +kernel
theorem dX6_sheet_48 : decode cX6_sheet 48 = .ok (.invokevirtual 206, 3) := by decide +kernel
theorem dX6_sheet_51 : decode cX6_sheet 51 = .ok (.iconst 1, 1) := by decide +kernel
theorem dX6_sheet_52 : decode cX6_sheet 52 = .ok (.ireturn, 1) := by decide +kernel
set_option maxRecDepth 20000 in
theorem ggX6_lose_X6_isSheet : GoodIn wsX6_lose wsX6_isSheet := goodIn_r _ [5] (by decide +kernel) (by decide +kernel)
set_option maxRecDepth 20000 in
theorem gX6_lose_X6_isSheet : GoodIn wsX6_lose (va_wsS RX6 60 yX6_isSheet wsX6_isSheet) := goodIn_app (goodIn_of _ (by decide +kernel)) ggX6_lose_X6_isSheet
set_option maxRecDepth 20000 in
theorem ggX6_lose_X3_hasNothing : GoodIn wsX6_lose wsX3_hasNothing := goodIn_r _ [10, 11, 25, 26, 27] (by decide +kernel) (by decide +kernel)
set_option maxRecDepth 20000 in
theorem gX6_lose_X3_hasNothing : GoodIn wsX6_lose (wsV RX6 210 RX3 yX3_hasNothing wsX3_hasNothing) := goodIn_app (goodIn_of _ (by decide +kernel)) ggX6_lose_X3_hasNothing
set_option maxRecDepth 20000 in
theorem ggX6_lose_X3_drop : GoodIn wsX6_lose wsX3_drop := goodIn_r _ [15, 11, 16, 25, 26, 27] (by decide +kernel) (by decide +kernel)
set_option maxRecDepth 20000 in
theorem gX6_lose_X3_drop : GoodIn wsX6_lose (wsV RX6 213 RX3 yX3_drop wsX3_drop) := goodIn_app (goodIn_of _ (by decide +kernel)) ggX6_lose_X3_drop
theorem dX6_lose_0 : decode cX6_lose 0 = .ok (.iload_n 1, 1) := by decide +kernel
theorem dX6_lose_1 : decode cX6_lose 1 = .ok (.invokestatic 60, 3) := by decide +kernel
theorem dX6_lose_4 : decode cX6_lose 4 = .ok (.ifCond .ne 5, 3) := by decide +kernel
theorem dX6_lose_7 : decode cX6_lose 7 = .ok (.iconst (-1), 1) := by decide +kernel
theorem dX6_lose_8 : decode cX6_lose 8 = .ok (.ireturn, 1) := by decide +kernel
theorem dX6_lose_9 : decode cX6_lose 9 = .ok (.aload_n 0, 1) := by decide +kernel
theorem dX6_lose_10 : decode cX6_lose 10 = .ok (.getfield 13, 3) := by decide +kernel
theorem dX6_lose_13 : decode cX6_lose 13 = .ok (.iload_n 1, 1) := by decide +kernel
theorem dX6_lose_14 : decode cX6_lose 14 = .ok (.aaload, 1) := by decide +kernel
theorem dX6_lose_15 : decode cX6_lose 15 = .ok (.invokevirtual 210, 3) := by decide +kernel
theorem dX6_lose_18 : decode cX6_lose 18 = .ok (.ifCond .eq 5, 3) := by decide +kernel
theorem dX6_lose_21 : decode cX6_lose 21 = .ok (.iconst 0, 1) := by decide +kernel
theorem dX6_lose_22 : decode cX6_lose 22 = .ok (.ireturn, 1) := by decide +kernel
theorem dX6_lose_23 : decode cX6_lose 23 = .ok (.aload_n 0, 1) := by decide +kernel
theorem dX6_lose_24 : decode cX6_lose 24 = .ok (.getfield 13, 3) := by decide +kernel
theorem dX6_lose_27 : decode cX6_lose 27 = .ok (.iload_n 1, 1) := by decide +kernel
theorem dX6_lose_28 : decode cX6_lose 28 = .ok (.aaload, 1) := by decide +kernel
theorem dX6_lose_29 : decode cX6_lose 29 = .ok (.invokevirtual 213, 3) := by decide +kernel
theorem dX6_lose_32 : decode cX6_lose 32 = .ok (.iconst 1, 1) := by decide +kernel
theorem dX6_lose_33 : decode cX6_lose 33 = .ok (.ireturn, 1) := by decide +kernel
set_option maxRecDepth 20000 in
theorem ggX6_put_X6_isSheet : GoodIn wsX6_put wsX6_isSheet := goodIn_r _ [6] (by decide +kernel) (by decide +kernel)
set_option maxRecDepth 20000 in
theorem gX6_put_X6_isSheet : GoodIn wsX6_put (va_wsS RX6 60 yX6_isSheet wsX6_isSheet) := goodIn_app (goodIn_of _ (by decide +kernel)) ggX6_put_X6_isSheet
set_option maxRecDepth 20000 in
theorem ggX6_put_X3_hasNothing : GoodIn wsX6_put wsX3_hasNothing := goodIn_r _ [11, 12, 40, 41, 42] (by decide +kernel) (by decide +kernel)
set_option maxRecDepth 20000 in
theorem gX6_put_X3_hasNothing : GoodIn wsX6_put (wsV RX6 210 RX3 yX3_hasNothing wsX3_hasNothing) := goodIn_app (goodIn_of _ (by decide +kernel)) ggX6_put_X3_hasNothing
set_option maxRecDepth 20000 in
theorem ggX6_put_X6_faulted : GoodIn wsX6_put wsX6_faulted := goodIn_r _ [16, 1, 32, 33, 34, 35, 36, 37, 38, 39] (by decide +kernel) (by decide +kernel)
set_option maxRecDepth 20000 in
theorem gX6_put_X6_faulted : GoodIn wsX6_put (wsV RX6 71 RX6 yX6_faulted wsX6_faulted) := goodIn_app (goodIn_of _ (by decide +kernel)) ggX6_put_X6_faulted
set_option maxRecDepth 20000 in
theorem ggX6_put_X3_hasCells : GoodIn wsX6_put wsX3_hasCells := goodIn_r _ [20, 21, 40, 41, 42] (by decide +kernel) (by decide +kernel)
set_option maxRecDepth 20000 in
theorem gX6_put_X3_hasCells : GoodIn wsX6_put (wsV RX6 216 RX3 yX3_hasCells wsX3_hasCells) := goodIn_app (goodIn_of _ (by decide +kernel)) ggX6_put_X3_hasCells
set_option maxRecDepth 20000 in
theorem ggX6_put_X3_setCell : GoodIn wsX6_put wsX3_setCell := goodIn_r _ [25, 26, 27, 18, 19, 10, 20, 21, 28, 29, 30, 31, 12, 40, 41, 42] (by decide +kernel) (by decide +kernel)
set_option maxRecDepth 20000 in
theorem gX6_put_X3_setCell : GoodIn wsX6_put (wsV RX6 219 RX3 yX3_setCell wsX3_setCell) := goodIn_app (goodIn_of _ (by decide +kernel)) ggX6_put_X3_setCell
theorem dX6_put_0 : decode cX6_put 0 = .ok (.aload_n 0, 1) := by decide +kernel
theorem dX6_put_1 : decode cX6_put 1 = .ok (.iconst 0, 1) := by decide +kernel
theorem dX6_put_2 : decode cX6_put 2 = .ok (.putfield 52, 3) := by decide +kernel
theorem dX6_put_5 : decode cX6_put 5 = .ok (.iload_n 1, 1) := by decide +kernel
theorem dX6_put_6 : decode cX6_put 6 = .ok (.invokestatic 60, 3) := by decide +kernel
theorem dX6_put_9 : decode cX6_put 9 = .ok (.ifCond .ne 5, 3) := by decide +kernel
theorem dX6_put_12 : decode cX6_put 12 = .ok (.iconst (-1), 1) := by decide +kernel
theorem dX6_put_13 : decode cX6_put 13 = .ok (.ireturn, 1) := by decide +kernel
theorem dX6_put_14 : decode cX6_put 14 = .ok (.aload_n 0, 1) := by decide +kernel
theorem dX6_put_15 : decode cX6_put 15 = .ok (.getfield 13, 3) := by decide +kernel
theorem dX6_put_18 : decode cX6_put 18 = .ok (.iload_n 1, 1) := by decide +kernel
theorem dX6_put_19 : decode cX6_put 19 = .ok (.aaload, 1) := by decide +kernel
theorem dX6_put_20 : decode cX6_put 20 = .ok (.astore 4, 2) := by decide +kernel
theorem dX6_put_22 : decode cX6_put 22 = .ok (.aload 4, 2) := by decide +kernel
theorem dX6_put_24 : decode cX6_put 24 = .ok (.invokevirtual 210, 3) := by decide +kernel
theorem dX6_put_27 : decode cX6_put 27 = .ok (.ifCond .eq 9, 3) := by decide +kernel
theorem dX6_put_30 : decode cX6_put 30 = .ok (.aload_n 0, 1) := by decide +kernel
theorem dX6_put_31 : decode cX6_put 31 = .ok (.iconst 1, 1) := by decide +kernel
theorem dX6_put_32 : decode cX6_put 32 = .ok (.invokevirtual 71, 3) := by decide +kernel
theorem dX6_put_35 : decode cX6_put 35 = .ok (.ireturn, 1) := by decide +kernel
theorem dX6_put_36 : decode cX6_put 36 = .ok (.aload 4, 2) := by decide +kernel
theorem dX6_put_38 : decode cX6_put 38 = .ok (.iload_n 2, 1) := by decide +kernel
theorem dX6_put_39 : decode cX6_put 39 = .ok (.iconst 1, 1) := by decide +kernel
theorem dX6_put_40 : decode cX6_put 40 = .ok (.invokevirtual 216, 3) := by decide +kernel
theorem dX6_put_43 : decode cX6_put 43 = .ok (.ifCond .ne 9, 3) := by decide +kernel
theorem dX6_put_46 : decode cX6_put 46 = .ok (.aload_n 0, 1) := by decide +kernel
theorem dX6_put_47 : decode cX6_put 47 = .ok (.iconst 3, 1) := by decide +kernel
theorem dX6_put_48 : decode cX6_put 48 = .ok (.invokevirtual 71, 3) := by decide +kernel
theorem dX6_put_51 : decode cX6_put 51 = .ok (.ireturn, 1) := by decide +kernel
theorem dX6_put_52 : decode cX6_put 52 = .ok (.aload 4, 2) := by decide +kernel
theorem dX6_put_54 : decode cX6_put 54 = .ok (.iload_n 2, 1) := by decide +kernel
theorem dX6_put_55 : decode cX6_put 55 = .ok (.iload_n 3, 1) := by decide +kernel
theorem dX6_put_56 : decode cX6_put 56 = .ok (.invokevirtual 219, 3) := by decide +kernel
theorem dX6_put_59 : decode cX6_put 59 = .ok (.iconst 1, 1) := by decide +kernel
theorem dX6_put_60 : decode cX6_put 60 = .ok (.ireturn, 1) := by decide +kernel
set_option maxRecDepth 20000 in
theorem ggX6_cell_X6_isSheet : GoodIn wsX6_cell wsX6_isSheet := goodIn_r _ [7] (by decide +kernel) (by decide +kernel)
set_option maxRecDepth 20000 in
theorem gX6_cell_X6_isSheet : GoodIn wsX6_cell (va_wsS RX6 60 yX6_isSheet wsX6_isSheet) := goodIn_app (goodIn_of _ (by decide +kernel)) ggX6_cell_X6_isSheet
set_option maxRecDepth 20000 in
theorem ggX6_cell_X6_isLane : GoodIn wsX6_cell wsX6_isLane := goodIn_r _ [10] (by decide +kernel) (by decide +kernel)
set_option maxRecDepth 20000 in
theorem gX6_cell_X6_isLane : GoodIn wsX6_cell (va_wsS RX6 64 yX6_isLane wsX6_isLane) := goodIn_app (goodIn_of _ (by decide +kernel)) ggX6_cell_X6_isLane
set_option maxRecDepth 20000 in
theorem ggX6_cell_X3_faultOfTaking : GoodIn wsX6_cell wsX3_faultOfTaking := goodIn_r _ [15, 16, 17, 18, 19, 14, 20, 21, 22, 23, 24, 25, 39, 40, 41] (by decide +kernel) (by decide +kernel)
set_option maxRecDepth 20000 in
theorem gX6_cell_X3_faultOfTaking : GoodIn wsX6_cell (wsV RX6 67 RX3 yX3_faultOfTaking wsX3_faultOfTaking) := goodIn_app (goodIn_of _ (by decide +kernel)) ggX6_cell_X3_faultOfTaking
set_option maxRecDepth 20000 in
theorem ggX6_cell_X3_cellAt : GoodIn wsX6_cell wsX3_cellAt := goodIn_r _ [29, 30, 21, 22, 23, 14, 24, 25, 39, 40, 41] (by decide +kernel) (by decide +kernel)
set_option maxRecDepth 20000 in
theorem gX6_cell_X3_cellAt : GoodIn wsX6_cell (wsV RX6 222 RX3 yX3_cellAt wsX3_cellAt) := goodIn_app (goodIn_of _ (by decide +kernel)) ggX6_cell_X3_cellAt
theorem dX6_cell_0 : decode cX6_cell 0 = .ok (.aload_n 0, 1) := by decide +kernel
theorem dX6_cell_1 : decode cX6_cell 1 = .ok (.iconst 0, 1) := by decide +kernel
theorem dX6_cell_2 : decode cX6_cell 2 = .ok (.putfield 52, 3) := by decide +kernel
theorem dX6_cell_5 : decode cX6_cell 5 = .ok (.iload_n 1, 1) := by decide +kernel
theorem dX6_cell_6 : decode cX6_cell 6 = .ok (.invokestatic 60, 3) := by decide +kernel
theorem dX6_cell_9 : decode cX6_cell 9 = .ok (.ifCond .eq 10, 3) := by decide +kernel
theorem dX6_cell_12 : decode cX6_cell 12 = .ok (.iload_n 3, 1) := by decide +kernel
theorem dX6_cell_13 : decode cX6_cell 13 = .ok (.invokestatic 64, 3) := by decide +kernel
theorem dX6_cell_16 : decode cX6_cell 16 = .ok (.ifCond .ne 7, 3) := by decide +kernel
theorem dX6_cell_19 : decode cX6_cell 19 = .ok (.ldc2_w 201, 3) := by decide +kernel
theorem dX6_cell_22 : decode cX6_cell 22 = .ok (.lreturn, 1) := by decide +kernel
theorem dX6_cell_23 : decode cX6_cell 23 = .ok (.aload_n 0, 1) := by decide +kernel
theorem dX6_cell_24 : decode cX6_cell 24 = .ok (.getfield 13, 3) := by decide +kernel
theorem dX6_cell_27 : decode cX6_cell 27 = .ok (.iload_n 1, 1) := by decide +kernel
theorem dX6_cell_28 : decode cX6_cell 28 = .ok (.aaload, 1) := by decide +kernel
theorem dX6_cell_29 : decode cX6_cell 29 = .ok (.astore 4, 2) := by decide +kernel
theorem dX6_cell_31 : decode cX6_cell 31 = .ok (.aload_n 0, 1) := by decide +kernel
theorem dX6_cell_32 : decode cX6_cell 32 = .ok (.aload 4, 2) := by decide +kernel
theorem dX6_cell_34 : decode cX6_cell 34 = .ok (.iload_n 3, 1) := by decide +kernel
theorem dX6_cell_35 : decode cX6_cell 35 = .ok (.iload_n 2, 1) := by decide +kernel
theorem dX6_cell_36 : decode cX6_cell 36 = .ok (.iconst 1, 1) := by decide +kernel
theorem dX6_cell_37 : decode cX6_cell 37 = .ok (.invokevirtual 67, 3) := by decide +kernel
theorem dX6_cell_40 : decode cX6_cell 40 = .ok (.putfield 52, 3) := by decide +kernel
theorem dX6_cell_43 : decode cX6_cell 43 = .ok (.aload_n 0, 1) := by decide +kernel
theorem dX6_cell_44 : decode cX6_cell 44 = .ok (.getfield 52, 3) := by decide +kernel
theorem dX6_cell_47 : decode cX6_cell 47 = .ok (.ifCond .ne 13, 3) := by decide +kernel
theorem dX6_cell_50 : decode cX6_cell 50 = .ok (.aload 4, 2) := by decide +kernel
theorem dX6_cell_52 : decode cX6_cell 52 = .ok (.iload_n 2, 1) := by decide +kernel
theorem dX6_cell_53 : decode cX6_cell 53 = .ok (.invokevirtual 222, 3) := by decide +kernel
theorem dX6_cell_56 : decode cX6_cell 56 = .ok (.i2l, 1) := by decide +kernel
theorem dX6_cell_57 : decode cX6_cell 57 = .ok (.goto 6, 3) := by decide +kernel
theorem dX6_cell_60 : decode cX6_cell 60 = .ok (.ldc2_w 201, 3) := by decide +kernel
theorem dX6_cell_63 : decode cX6_cell 63 = .ok (.lreturn, 1) := by decide +kernel
set_option maxRecDepth 20000 in
theorem ggX6_copy_X6_isSheet : GoodIn wsX6_copy wsX6_isSheet := goodIn_r _ [10] (by decide +kernel) (by decide +kernel)
set_option maxRecDepth 20000 in
theorem gX6_copy_X6_isSheet : GoodIn wsX6_copy (va_wsS RX6 60 yX6_isSheet wsX6_isSheet) := goodIn_app (goodIn_of _ (by decide +kernel)) ggX6_copy_X6_isSheet
set_option maxRecDepth 20000 in
theorem ggX6_copy_X3_hasNothing : GoodIn wsX6_copy wsX3_hasNothing := goodIn_r _ [15, 16, 34, 35, 36] (by decide +kernel) (by decide +kernel)
set_option maxRecDepth 20000 in
theorem gX6_copy_X3_hasNothing : GoodIn wsX6_copy (wsV RX6 210 RX3 yX3_hasNothing wsX3_hasNothing) := goodIn_app (goodIn_of _ (by decide +kernel)) ggX6_copy_X3_hasNothing
set_option maxRecDepth 20000 in
theorem ggX6_copy_X6_faulted : GoodIn wsX6_copy wsX6_faulted := goodIn_r _ [20, 1, 26, 27, 28, 29, 30, 31, 32, 33] (by decide +kernel) (by decide +kernel)
set_option maxRecDepth 20000 in
theorem gX6_copy_X6_faulted : GoodIn wsX6_copy (wsV RX6 71 RX6 yX6_faulted wsX6_faulted) := goodIn_app (goodIn_of _ (by decide +kernel)) ggX6_copy_X6_faulted
set_option maxRecDepth 20000 in
theorem ggX6_copy_X3_hasCells : GoodIn wsX6_copy wsX3_hasCells := goodIn_r _ [24, 25, 34, 35, 36] (by decide +kernel) (by decide +kernel)
set_option maxRecDepth 20000 in
theorem gX6_copy_X3_hasCells : GoodIn wsX6_copy (wsV RX6 216 RX3 yX3_hasCells wsX3_hasCells) := goodIn_app (goodIn_of _ (by decide +kernel)) ggX6_copy_X3_hasCells
theorem dX6_copy_0 : decode cX6_copy 0 = .ok (.aload_n 0, 1) := by decide +kernel
theorem dX6_copy_1 : decode cX6_copy 1 = .ok (.iconst 0, 1) := by decide +kernel
theorem dX6_copy_2 : decode cX6_copy 2 = .ok (.putfield 52, 3) := by decide +kernel
theorem dX6_copy_5 : decode cX6_copy 5 = .ok (.iload_n 1, 1) := by decide +kernel
theorem dX6_copy_6 : decode cX6_copy 6 = .ok (.invokestatic 60, 3) := by decide +kernel
theorem dX6_copy_9 : decode cX6_copy 9 = .ok (.ifCond .eq 10, 3) := by decide +kernel
theorem dX6_copy_12 : decode cX6_copy 12 = .ok (.iload_n 3, 1) := by decide +kernel
theorem dX6_copy_13 : decode cX6_copy 13 = .ok (.invokestatic 60, 3) := by decide +kernel
theorem dX6_copy_16 : decode cX6_copy 16 = .ok (.ifCond .ne 5, 3) := by decide +kernel
theorem dX6_copy_19 : decode cX6_copy 19 = .ok (.iconst (-1), 1) := by decide +kernel
theorem dX6_copy_20 : decode cX6_copy 20 = .ok (.ireturn, 1) := by decide +kernel
theorem dX6_copy_21 : decode cX6_copy 21 = .ok (.aload_n 0, 1) := by decide +kernel
theorem dX6_copy_22 : decode cX6_copy 22 = .ok (.getfield 13, 3) := by decide +kernel
theorem dX6_copy_25 : decode cX6_copy 25 = .ok (.iload_n 1, 1) := by decide +kernel
theorem dX6_copy_26 : decode cX6_copy 26 = .ok (.aaload, 1) := by decide +kernel
theorem dX6_copy_27 : decode cX6_copy 27 = .ok (.astore 6, 2) := by decide +kernel
theorem dX6_copy_29 : decode cX6_copy 29 = .ok (.aload_n 0, 1) := by decide +kernel
theorem dX6_copy_30 : decode cX6_copy 30 = .ok (.getfield 13, 3) := by decide +kernel
theorem dX6_copy_33 : decode cX6_copy 33 = .ok (.iload_n 3, 1) := by decide +kernel
theorem dX6_copy_34 : decode cX6_copy 34 = .ok (.aaload, 1) := by decide +kernel
theorem dX6_copy_35 : decode cX6_copy 35 = .ok (.astore 7, 2) := by decide +kernel
theorem dX6_copy_37 : decode cX6_copy 37 = .ok (.aload 6, 2) := by decide +kernel
theorem dX6_copy_39 : decode cX6_copy 39 = .ok (.invokevirtual 210, 3) := by decide +kernel
theorem dX6_copy_42 : decode cX6_copy 42 = .ok (.ifCond .ne 11, 3) := by decide +kernel
theorem dX6_copy_45 : decode cX6_copy 45 = .ok (.aload 7, 2) := by decide +kernel
theorem dX6_copy_47 : decode cX6_copy 47 = .ok (.invokevirtual 210, 3) := by decide +kernel
theorem dX6_copy_50 : decode cX6_copy 50 = .ok (.ifCond .eq 9, 3) := by decide +kernel
theorem dX6_copy_53 : decode cX6_copy 53 = .ok (.aload_n 0, 1) := by decide +kernel
theorem dX6_copy_54 : decode cX6_copy 54 = .ok (.iconst 1, 1) := by decide +kernel
theorem dX6_copy_55 : decode cX6_copy 55 = .ok (.invokevirtual 71, 3) := by decide +kernel
theorem dX6_copy_58 : decode cX6_copy 58 = .ok (.ireturn, 1) := by decide +kernel
theorem dX6_copy_59 : decode cX6_copy 59 = .ok (.aload 6, 2) := by decide +kernel
theorem dX6_copy_61 : decode cX6_copy 61 = .ok (.getfield 225, 3) := by decide +kernel
theorem dX6_copy_64 : decode cX6_copy 64 = .ok (.aload 7, 2) := by decide +kernel
theorem dX6_copy_66 : decode cX6_copy 66 = .ok (.getfield 225, 3) := by decide +kernel
theorem dX6_copy_69 : decode cX6_copy 69 = .ok (.if_icmp .eq 9, 3) := by decide +kernel
theorem dX6_copy_72 : decode cX6_copy 72 = .ok (.aload_n 0, 1) := by decide +kernel
theorem dX6_copy_73 : decode cX6_copy 73 = .ok (.iconst 2, 1) := by decide +kernel
theorem dX6_copy_74 : decode cX6_copy 74 = .ok (.invokevirtual 71, 3) := by decide +kernel
theorem dX6_copy_77 : decode cX6_copy 77 = .ok (.ireturn, 1) := by decide +kernel
theorem dX6_copy_78 : decode cX6_copy 78 = .ok (.aload 6, 2) := by decide +kernel
theorem dX6_copy_80 : decode cX6_copy 80 = .ok (.iload_n 2, 1) := by decide +kernel
theorem dX6_copy_81 : decode cX6_copy 81 = .ok (.iload 5, 2) := by decide +kernel
theorem dX6_copy_83 : decode cX6_copy 83 = .ok (.invokevirtual 216, 3) := by decide +kernel
theorem dX6_copy_86 : decode cX6_copy 86 = .ok (.ifCond .eq 15, 3) := by decide +kernel
theorem dX6_copy_89 : decode cX6_copy 89 = .ok (.aload 7, 2) := by decide +kernel
theorem dX6_copy_91 : decode cX6_copy 91 = .ok (.iload 4, 2) := by decide +kernel
theorem dX6_copy_93 : decode cX6_copy 93 = .ok (.iload 5, 2) := by decide +kernel
theorem dX6_copy_95 : decode cX6_copy 95 = .ok (.invokevirtual 216, 3) := by decide +kernel
theorem dX6_copy_98 : decode cX6_copy 98 = .ok (.ifCond .ne 9, 3) := by decide +kernel
theorem dX6_copy_101 : decode cX6_copy 101 = .ok (.aload_n 0, 1) := by decide +kernel
theorem dX6_copy_102 : decode cX6_copy 102 = .ok (.iconst 3, 1) := by decide +kernel
theorem dX6_copy_103 : decode cX6_copy 103 = .ok (.invokevirtual 71, 3) := by decide +kernel
theorem dX6_copy_106 : decode cX6_copy 106 = .ok (.ireturn, 1) := by decide +kernel
theorem dX6_copy_107 : decode cX6_copy 107 = .ok (.aload 6, 2) := by decide +kernel
theorem dX6_copy_109 : decode cX6_copy 109 = .ok (.getfield 228, 3) := by decide +kernel
theorem dX6_copy_112 : decode cX6_copy 112 = .ok (.iload_n 2, 1) := by decide +kernel
theorem dX6_copy_113 : decode cX6_copy 113 = .ok (.aload 7, 2) := by decide +kernel
theorem dX6_copy_115 : decode cX6_copy 115 = .ok (.getfield 228, 3) := by decide +kernel
theorem dX6_copy_118 : decode cX6_copy 118 = .ok (.iload 4, 2) := by decide +kernel
theorem dX6_copy_120 : decode cX6_copy 120 = .ok (.iload 5, 2) := by decide +kernel
theorem dX6_copy_122 : decode cX6_copy 122 = .ok (.invokestatic 231, 3) := by decide +kernel
theorem dX6_copy_125 : decode cX6_copy 125 = .ok (.iload 5, 2) := by decide +kernel
theorem dX6_copy_127 : decode cX6_copy 127 = .ok (.ireturn, 1) := by decide +kernel
set_option maxRecDepth 20000 in
theorem ggX6_tell_X1_has : GoodIn wsX6_tell wsX1_has := goodIn_r _ [6, 7, 34, 35, 36, 37, 38, 39] (by decide +kernel) (by decide +kernel)
set_option maxRecDepth 20000 in
theorem gX6_tell_X1_has : GoodIn wsX6_tell (wsV RX6 96 RX1 yX1_has wsX1_has) := goodIn_app (goodIn_of _ (by decide +kernel)) ggX6_tell_X1_has
set_option maxRecDepth 20000 in
theorem ggX6_tell_X6_tellLeaving : GoodIn wsX6_tell wsX6_tellLeaving := goodIn_r _ [12, 13, 14, 15, 11, 16, 17, 18, 19, 20, 21, 1, 26, 27, 28, 29, 30, 31, 32, 33, 34, 35, 36, 37, 38, 39] (by decide +kernel) (by decide +kernel)
set_option maxRecDepth 20000 in
theorem gX6_tell_X6_tellLeaving : GoodIn wsX6_tell (wsV RX6 237 RX6 yX6_tellLeaving wsX6_tellLeaving) := goodIn_app (goodIn_of _ (by decide +kernel)) ggX6_tell_X6_tellLeaving
set_option maxRecDepth 20000 in
theorem ggX6_tell_X6_tellKeeping : GoodIn wsX6_tell wsX6_tellKeeping := goodIn_r _ [25, 13, 14, 15, 11, 16, 17, 8, 9, 10, 12, 18, 19, 20, 21, 1, 26, 27, 28, 29, 30, 31, 32, 33, 34, 35, 36, 37, 38, 39] (by decide +kernel) (by decide +kernel)
set_option maxRecDepth 20000 in
theorem gX6_tell_X6_tellKeeping : GoodIn wsX6_tell (wsV RX6 240 RX6 yX6_tellKeeping wsX6_tellKeeping) := goodIn_app (goodIn_of _ (by decide +kernel)) ggX6_tell_X6_tellKeeping
set_option maxRecDepth 20000 in
theorem ggX6_tell_X6_tellPlain : GoodIn wsX6_tell wsX6_tellPlain := goodIn_r _ [21, 1, 13, 14, 15, 11, 16, 17, 26, 27, 28, 29, 30, 31, 32, 33, 34, 35, 36, 37, 38, 39] (by decide +kernel) (by decide +kernel)
set_option maxRecDepth 20000 in
theorem gX6_tell_X6_tellPlain : GoodIn wsX6_tell (wsV RX6 243 RX6 yX6_tellPlain wsX6_tellPlain) := goodIn_app (goodIn_of _ (by decide +kernel)) ggX6_tell_X6_tellPlain
theorem dX6_tell_0 : decode cX6_tell 0 = .ok (.aload_n 0, 1) := by decide +kernel
theorem dX6_tell_1 : decode cX6_tell 1 = .ok (.getfield 35, 3) := by decide +kernel
theorem dX6_tell_4 : decode cX6_tell 4 = .ok (.iload_n 1, 1) := by decide +kernel
theorem dX6_tell_5 : decode cX6_tell 5 = .ok (.invokevirtual 96, 3) := by decide +kernel
theorem dX6_tell_8 : decode cX6_tell 8 = .ok (.ifCond .ne 5, 3) := by decide +kernel
theorem dX6_tell_11 : decode cX6_tell 11 = .ok (.iconst (-1), 1) := by decide +kernel
theorem dX6_tell_12 : decode cX6_tell 12 = .ok (.ireturn, 1) := by decide +kernel
theorem dX6_tell_13 : decode cX6_tell 13 = .ok (.aload_n 0, 1) := by decide +kernel
theorem dX6_tell_14 : decode cX6_tell 14 = .ok (.getfield 35, 3) := by decide +kernel
theorem dX6_tell_17 : decode cX6_tell 17 = .ok (.getfield 99, 3) := by decide +kernel
theorem dX6_tell_20 : decode cX6_tell 20 = .ok (.iload_n 1, 1) := by decide +kernel
theorem dX6_tell_21 : decode cX6_tell 21 = .ok (.iaload, 1) := by decide +kernel
theorem dX6_tell_22 : decode cX6_tell 22 = .ok (.lookupswitch 38 #[(1, 26), (2, 32)], 26) := by decide +kernel
theorem dX6_tell_48 : decode cX6_tell 48 = .ok (.aload_n 0, 1) := by decide +kernel
theorem dX6_tell_49 : decode cX6_tell 49 = .ok (.iload_n 1, 1) := by decide +kernel
theorem dX6_tell_50 : decode cX6_tell 50 = .ok (.invokevirtual 237, 3) := by decide +kernel
theorem dX6_tell_53 : decode cX6_tell 53 = .ok (.ireturn, 1) := by decide +kernel
theorem dX6_tell_54 : decode cX6_tell 54 = .ok (.aload_n 0, 1) := by decide +kernel
theorem dX6_tell_55 : decode cX6_tell 55 = .ok (.iload_n 1, 1) := by decide +kernel
theorem dX6_tell_56 : decode cX6_tell 56 = .ok (.invokevirtual 240, 3) := by decide +kernel
theorem dX6_tell_59 : decode cX6_tell 59 = .ok (.ireturn, 1) := by decide +kernel
theorem dX6_tell_60 : decode cX6_tell 60 = .ok (.aload_n 0, 1) := by decide +kernel
theorem dX6_tell_61 : decode cX6_tell 61 = .ok (.iload_n 1, 1) := by decide +kernel
theorem dX6_tell_62 : decode cX6_tell 62 = .ok (.invokevirtual 243, 3) := by decide +kernel
theorem dX6_tell_65 : decode cX6_tell 65 = .ok (.ireturn, 1) := by decide +kernel
set_option maxRecDepth 20000 in
theorem ggX6_name_X1_has : GoodIn wsX6_name wsX1_has := goodIn_r _ [6, 7, 22, 23, 24, 25, 26, 27] (by decide +kernel) (by decide +kernel)
set_option maxRecDepth 20000 in
theorem gX6_name_X1_has : GoodIn wsX6_name (wsV RX6 96 RX1 yX1_has wsX1_has) := goodIn_app (goodIn_of _ (by decide +kernel)) ggX6_name_X1_has
set_option maxRecDepth 20000 in
theorem ggX6_name_X6_leaveInTrace : GoodIn wsX6_name wsX6_leaveInTrace := goodIn_r _ [12, 13, 14, 15, 16, 17, 18, 19, 20, 21] (by decide +kernel) (by decide +kernel)
set_option maxRecDepth 20000 in
theorem gX6_name_X6_leaveInTrace : GoodIn wsX6_name (wsV RX6 246 RX6 yX6_leaveInTrace wsX6_leaveInTrace) := goodIn_app (goodIn_of _ (by decide +kernel)) ggX6_name_X6_leaveInTrace
theorem dX6_name_0 : decode cX6_name 0 = .ok (.aload_n 0, 1) := by decide +kernel
theorem dX6_name_1 : decode cX6_name 1 = .ok (.getfield 35, 3) := by decide +kernel
theorem dX6_name_4 : decode cX6_name 4 = .ok (.iload_n 1, 1) := by decide +kernel
theorem dX6_name_5 : decode cX6_name 5 = .ok (.invokevirtual 96, 3) := by decide +kernel
theorem dX6_name_8 : decode cX6_name 8 = .ok (.ifCond .ne 5, 3) := by decide +kernel
theorem dX6_name_11 : decode cX6_name 11 = .ok (.iconst (-1), 1) := by decide +kernel
theorem dX6_name_12 : decode cX6_name 12 = .ok (.ireturn, 1) := by decide +kernel
theorem dX6_name_13 : decode cX6_name 13 = .ok (.aload_n 0, 1) := by decide +kernel
theorem dX6_name_14 : decode cX6_name 14 = .ok (.getfield 35, 3) := by decide +kernel
theorem dX6_name_17 : decode cX6_name 17 = .ok (.getfield 99, 3) := by decide +kernel
theorem dX6_name_20 : decode cX6_name 20 = .ok (.iload_n 1, 1) := by decide +kernel
theorem dX6_name_21 : decode cX6_name 21 = .ok (.iaload, 1) := by decide +kernel
theorem dX6_name_22 : decode cX6_name 22 = .ok (.iconst 2, 1) := by decide +kernel
theorem dX6_name_23 : decode cX6_name 23 = .ok (.if_icmp .ne 11, 3) := by decide +kernel
theorem dX6_name_26 : decode cX6_name 26 = .ok (.aload_n 0, 1) := by decide +kernel
theorem dX6_name_27 : decode cX6_name 27 = .ok (.iconst 5, 1) := by decide +kernel
theorem dX6_name_28 : decode cX6_name 28 = .ok (.invokevirtual 246, 3) := by decide +kernel
theorem dX6_name_31 : decode cX6_name 31 = .ok (.bipush 60, 2) := by decide +kernel
theorem dX6_name_33 : decode cX6_name 33 = .ok (.ireturn, 1) := by decide +kernel
theorem dX6_name_34 : decode cX6_name 34 = .ok (.aload_n 0, 1) := by decide +kernel
theorem dX6_name_35 : decode cX6_name 35 = .ok (.iconst 4, 1) := by decide +kernel
theorem dX6_name_36 : decode cX6_name 36 = .ok (.invokevirtual 246, 3) := by decide +kernel
theorem dX6_name_39 : decode cX6_name 39 = .ok (.iload_n 1, 1) := by decide +kernel
theorem dX6_name_40 : decode cX6_name 40 = .ok (.ireturn, 1) := by decide +kernel
set_option maxRecDepth 20000 in
theorem ggX6_as_X1_has : GoodIn wsX6_as wsX1_has := goodIn_r _ [7, 8, 22, 23, 24, 25, 26, 27] (by decide +kernel) (by decide +kernel)
set_option maxRecDepth 20000 in
theorem gX6_as_X1_has : GoodIn wsX6_as (wsV RX6 96 RX1 yX1_has wsX1_has) := goodIn_app (goodIn_of _ (by decide +kernel)) ggX6_as_X1_has
set_option maxRecDepth 20000 in
theorem ggX6_as_X6_faulted : GoodIn wsX6_as wsX6_faulted := goodIn_r _ [13, 1, 14, 15, 16, 17, 18, 19, 20, 21] (by decide +kernel) (by decide +kernel)
set_option maxRecDepth 20000 in
theorem gX6_as_X6_faulted : GoodIn wsX6_as (wsV RX6 71 RX6 yX6_faulted wsX6_faulted) := goodIn_app (goodIn_of _ (by decide +kernel)) ggX6_as_X6_faulted
theorem dX6_as_0 : decode cX6_as 0 = .ok (.aload_n 0, 1) := by decide +kernel
theorem dX6_as_1 : decode cX6_as 1 = .ok (.iconst 0, 1) := by decide +kernel
theorem dX6_as_2 : decode cX6_as 2 = .ok (.putfield 52, 3) := by decide +kernel
theorem dX6_as_5 : decode cX6_as 5 = .ok (.aload_n 0, 1) := by decide +kernel
theorem dX6_as_6 : decode cX6_as 6 = .ok (.getfield 35, 3) := by decide +kernel
theorem dX6_as_9 : decode cX6_as 9 = .ok (.iload_n 1, 1) := by decide +kernel
theorem dX6_as_10 : decode cX6_as 10 = .ok (.invokevirtual 96, 3) := by decide +kernel
theorem dX6_as_13 : decode cX6_as 13 = .ok (.ifCond .ne 5, 3) := by decide +kernel
theorem dX6_as_16 : decode cX6_as 16 = .ok (.iconst (-1), 1) := by decide +kernel
theorem dX6_as_17 : decode cX6_as 17 = .ok (.ireturn, 1) := by decide +kernel
theorem dX6_as_18 : decode cX6_as 18 = .ok (.iload_n 2, 1) := by decide +kernel
theorem dX6_as_19 : decode cX6_as 19 = .ok (.ifCond .lt 8, 3) := by decide +kernel
theorem dX6_as_22 : decode cX6_as 22 = .ok (.iload_n 2, 1) := by decide +kernel
theorem dX6_as_23 : decode cX6_as 23 = .ok (.iconst 3, 1) := by decide +kernel
theorem dX6_as_24 : decode cX6_as 24 = .ok (.if_icmp .lt 6, 3) := by decide +kernel
theorem dX6_as_27 : decode cX6_as 27 = .ok (.bipush (-2), 2) := by decide +kernel
theorem dX6_as_29 : decode cX6_as 29 = .ok (.ireturn, 1) := by decide +kernel
theorem dX6_as_30 : decode cX6_as 30 = .ok (.aload_n 0, 1) := by decide +kernel
theorem dX6_as_31 : decode cX6_as 31 = .ok (.getfield 35, 3) := by decide +kernel
theorem dX6_as_34 : decode cX6_as 34 = .ok (.getfield 99, 3) := by decide +kernel
theorem dX6_as_37 : decode cX6_as 37 = .ok (.iload_n 1, 1) := by decide +kernel
theorem dX6_as_38 : decode cX6_as 38 = .ok (.iaload, 1) := by decide +kernel
theorem dX6_as_39 : decode cX6_as 39 = .ok (.iload_n 2, 1) := by decide +kernel
theorem dX6_as_40 : decode cX6_as 40 = .ok (.if_icmp .lt 7, 3) := by decide +kernel
theorem dX6_as_43 : decode cX6_as 43 = .ok (.iconst 1, 1) := by decide +kernel
theorem dX6_as_44 : decode cX6_as 44 = .ok (.goto 8, 3) := by decide +kernel
theorem dX6_as_47 : decode cX6_as 47 = .ok (.aload_n 0, 1) := by decide +kernel
theorem dX6_as_48 : decode cX6_as 48 = .ok (.iconst 2, 1) := by decide +kernel
theorem dX6_as_49 : decode cX6_as 49 = .ok (.invokevirtual 71, 3) := by decide +kernel
theorem dX6_as_52 : decode cX6_as 52 = .ok (.ireturn, 1) := by decide +kernel
theorem dX6_trace_0 : decode cX6_trace 0 = .ok (.aload_n 0, 1) := by decide +kernel
theorem dX6_trace_1 : decode cX6_trace 1 = .ok (.getfield 56, 3) := by decide +kernel
theorem dX6_trace_4 : decode cX6_trace 4 = .ok (.ireturn, 1) := by decide +kernel
theorem dX6_fault_0 : decode cX6_fault 0 = .ok (.aload_n 0, 1) := by decide +kernel
theorem dX6_fault_1 : decode cX6_fault 1 = .ok (.getfield 52, 3) := by decide +kernel
theorem dX6_fault_4 : decode cX6_fault 4 = .ok (.ireturn, 1) := by decide +kernel
set_option maxRecDepth 20000 in
theorem ggX6_many_X1_stepsOfAll : GoodIn wsX6_many wsX1_stepsOfAll := goodIn_r _ [8, 9, 10, 89, 90, 91, 92, 93, 94] (by decide +kernel) (by decide +kernel)
set_option maxRecDepth 20000 in
theorem gX6_many_X1_stepsOfAll : GoodIn wsX6_many (wsV RX6 249 RX1 yX1_stepsOfAll wsX1_stepsOfAll) := goodIn_app (goodIn_of _ (by decide +kernel)) ggX6_many_X1_stepsOfAll
set_option maxRecDepth 20000 in
theorem ggX6_many_J6_bitCount_0f7a4 : GoodIn wsX6_many wsJ6_bitCount_0f7a4 := goodIn_r _ [14, 15, 16, 17] (by decide +kernel) (by decide +kernel)
set_option maxRecDepth 20000 in
theorem gX6_many_J6_bitCount_0f7a4 : GoodIn wsX6_many (va_wsS RX6 253 yJ6_bitCount_0f7a4 wsJ6_bitCount_0f7a4) := goodIn_app (goodIn_of _ (by decide +kernel)) ggX6_many_J6_bitCount_0f7a4
set_option maxRecDepth 20000 in
theorem ggX6_many_X5_begin : GoodIn wsX6_many wsX5_begin := goodIn_r _ [22, 23, 24, 25, 26, 27, 28, 29, 30, 98, 99, 100, 101, 102, 103, 104, 105, 106, 89, 90, 91, 92, 93, 94] (by decide +kernel) (by decide +kernel)
set_option maxRecDepth 20000 in
theorem gX6_many_X5_begin : GoodIn wsX6_many (wsV RX6 109 RX5 yX5_begin wsX5_begin) := goodIn_app (goodIn_of _ (by decide +kernel)) ggX6_many_X5_begin
set_option maxRecDepth 20000 in
theorem ggX6_many_X5_settleAll : GoodIn wsX6_many wsX5_settleAll := goodIn_r _ [34, 23, 35, 36, 37, 21, 38, 39, 40, 41, 42, 24, 43, 44, 45, 7, 46, 47, 48, 49, 50, 51, 10, 52, 53, 54, 55, 9, 56, 57, 58, 59, 60, 61, 62, 63, 64, 30, 65, 66, 67, 68, 69, 70, 71, 72, 73, 74, 75, 76, 29, 98, 99, 100, 101, 102, 103, 104, 105, 106, 89, 90, 91, 92, 93, 94] (by decide +kernel) (by decide +kernel)
set_option maxRecDepth 20000 in
theorem gX6_many_X5_settleAll : GoodIn wsX6_many (wsV RX6 143 RX5 yX5_settleAll wsX5_settleAll) := goodIn_app (goodIn_of _ (by decide +kernel)) ggX6_many_X5_settleAll
set_option maxRecDepth 20000 in
theorem ggX6_many_X5_howManyLetOut : GoodIn wsX6_many wsX5_howManyLetOut := goodIn_r _ [80, 23, 39, 98, 99, 100, 101, 102, 103, 104, 105, 106, 89, 90, 91, 92, 93, 94] (by decide +kernel) (by decide +kernel)
set_option maxRecDepth 20000 in
theorem gX6_many_X5_howManyLetOut : GoodIn wsX6_many (wsV RX6 258 RX5 yX5_howManyLetOut wsX5_howManyLetOut) := goodIn_app (goodIn_of _ (by decide +kernel)) ggX6_many_X5_howManyLetOut
theorem dX6_many_0 : decode cX6_many 0 = .ok (.iload_n 1, 1) := by decide +kernel
theorem dX6_many_1 : decode cX6_many 1 = .ok (.tableswitch 92 0 4 #[35, 43, 51, 62, 84], 35) := by decide +kernel
theorem dX6_many_36 : decode cX6_many 36 = .ok (.aload_n 0, 1) := by decide +kernel
theorem dX6_many_37 : decode cX6_many 37 = .ok (.getfield 35, 3) := by decide +kernel
theorem dX6_many_40 : decode cX6_many 40 = .ok (.getfield 95, 3) := by decide +kernel
theorem dX6_many_43 : decode cX6_many 43 = .ok (.ireturn, 1) := by decide +kernel
theorem dX6_many_44 : decode cX6_many 44 = .ok (.aload_n 0, 1) := by decide +kernel
theorem dX6_many_45 : decode cX6_many 45 = .ok (.getfield 35, 3) := by decide +kernel
theorem dX6_many_48 : decode cX6_many 48 = .ok (.invokevirtual 249, 3) := by decide +kernel
theorem dX6_many_51 : decode cX6_many 51 = .ok (.ireturn, 1) := by decide +kernel
theorem dX6_many_52 : decode cX6_many 52 = .ok (.aload_n 0, 1) := by decide +kernel
theorem dX6_many_53 : decode cX6_many 53 = .ok (.getfield 35, 3) := by decide +kernel
theorem dX6_many_56 : decode cX6_many 56 = .ok (.getfield 140, 3) := by decide +kernel
theorem dX6_many_59 : decode cX6_many 59 = .ok (.invokestatic 253, 3) := by decide +kernel
theorem dX6_many_62 : decode cX6_many 62 = .ok (.ireturn, 1) := by decide +kernel
theorem dX6_many_63 : decode cX6_many 63 = .ok (.aload_n 0, 1) := by decide +kernel
theorem dX6_many_64 : decode cX6_many 64 = .ok (.getfield 27, 3) := by decide +kernel
theorem dX6_many_67 : decode cX6_many 67 = .ok (.invokevirtual 109, 3) := by decide +kernel
theorem dX6_many_70 : decode cX6_many 70 = .ok (.aload_n 0, 1) := by decide +kernel
theorem dX6_many_71 : decode cX6_many 71 = .ok (.getfield 27, 3) := by decide +kernel
theorem dX6_many_74 : decode cX6_many 74 = .ok (.invokevirtual 143, 3) := by decide +kernel
theorem dX6_many_77 : decode cX6_many 77 = .ok (.aload_n 0, 1) := by decide +kernel
theorem dX6_many_78 : decode cX6_many 78 = .ok (.getfield 27, 3) := by decide +kernel
theorem dX6_many_81 : decode cX6_many 81 = .ok (.invokevirtual 258, 3) := by decide +kernel
theorem dX6_many_84 : decode cX6_many 84 = .ok (.ireturn, 1) := by decide +kernel
theorem dX6_many_85 : decode cX6_many 85 = .ok (.aload_n 0, 1) := by decide +kernel
theorem dX6_many_86 : decode cX6_many 86 = .ok (.getfield 48, 3) := by decide +kernel
theorem dX6_many_89 : decode cX6_many 89 = .ok (.getfield 88, 3) := by decide +kernel
theorem dX6_many_92 : decode cX6_many 92 = .ok (.ireturn, 1) := by decide +kernel
theorem dX6_many_93 : decode cX6_many 93 = .ok (.bipush (-2), 2) := by decide +kernel
theorem dX6_many_95 : decode cX6_many 95 = .ok (.ireturn, 1) := by decide +kernel
theorem dX6_isSheet_0 : decode cX6_isSheet 0 = .ok (.iload_n 0, 1) := by decide +kernel
theorem dX6_isSheet_1 : decode cX6_isSheet 1 = .ok (.ifCond .lt 12, 3) := by decide +kernel
theorem dX6_isSheet_4 : decode cX6_isSheet 4 = .ok (.iload_n 0, 1) := by decide +kernel
theorem dX6_isSheet_5 : decode cX6_isSheet 5 = .ok (.iconst 4, 1) := by decide +kernel
