theorem dX0_init_0 : decode cX0_init 0 = .ok (.aload_n 0, 1) := by decide +kernel
theorem dX0_init_1 : decode cX0_init 1 = .ok (.invokespecial 3, 3) := by decide +kernel
theorem dX0_init_4 : decode cX0_init 4 = .ok (.aload_n 0, 1) := by decide +kernel
theorem dX0_init_5 : decode cX0_init 5 = .ok (.iconst 0, 1) := by decide +kernel
theorem dX0_init_6 : decode cX0_init 6 = .ok (.putfield 9, 3) := by decide +kernel
theorem dX0_init_9 : decode cX0_init 9 = .ok (.aload_n 0, 1) := by decide +kernel
theorem dX0_init_10 : decode cX0_init 10 = .ok (.iconst 0, 1) := by decide +kernel
theorem dX0_init_11 : decode cX0_init 11 = .ok (.putfield 15, 3) := by decide +kernel
theorem dX0_init_14 : decode cX0_init 14 = .ok (.aload_n 0, 1) := by decide +kernel
theorem dX0_init_15 : decode cX0_init 15 = .ok (.bipush (-9), 2) := by decide +kernel
theorem dX0_init_17 : decode cX0_init 17 = .ok (.putfield 18, 3) := by decide +kernel
theorem dX0_init_20 : decode cX0_init 20 = .ok (.return_, 1) := by decide +kernel
theorem dX0_isQuestion_0 : decode cX0_isQuestion 0 = .ok (.iload_n 0, 1) := by decide +kernel
theorem dX0_isQuestion_1 : decode cX0_isQuestion 1 = .ok (.ifCond .lt 8, 3) := by decide +kernel
theorem dX0_isQuestion_4 : decode cX0_isQuestion 4 = .ok (.iload_n 0, 1) := by decide +kernel
theorem dX0_isQuestion_5 : decode cX0_isQuestion 5 = .ok (.iconst 4, 1) := by decide +kernel
theorem dX0_isQuestion_6 : decode cX0_isQuestion 6 = .ok (.if_icmp .le 15, 3) := by decide +kernel
theorem dX0_isQuestion_9 : decode cX0_isQuestion 9 = .ok (.iload_n 0, 1) := by decide +kernel
theorem dX0_isQuestion_10 : decode cX0_isQuestion 10 = .ok (.bipush 10, 2) := by decide +kernel
theorem dX0_isQuestion_12 : decode cX0_isQuestion 12 = .ok (.if_icmp .lt 13, 3) := by decide +kernel
theorem dX0_isQuestion_15 : decode cX0_isQuestion 15 = .ok (.iload_n 0, 1) := by decide +kernel
theorem dX0_isQuestion_16 : decode cX0_isQuestion 16 = .ok (.bipush 15, 2) := by decide +kernel
theorem dX0_isQuestion_18 : decode cX0_isQuestion 18 = .ok (.if_icmp .ge 7, 3) := by decide +kernel
theorem dX0_isQuestion_21 : decode cX0_isQuestion 21 = .ok (.iconst 1, 1) := by decide +kernel
theorem dX0_isQuestion_22 : decode cX0_isQuestion 22 = .ok (.goto 4, 3) := by decide +kernel
theorem dX0_isQuestion_25 : decode cX0_isQuestion 25 = .ok (.iconst 0, 1) := by decide +kernel
theorem dX0_isQuestion_26 : decode cX0_isQuestion 26 = .ok (.ireturn, 1) := by decide +kernel
set_option maxRecDepth 20000 in
theorem ggX0_isTold_X3_cellAt : GoodIn wsX0_isTold wsX3_cellAt := goodIn_r _ [5, 6, 7, 8, 9, 4, 10, 11, 16, 17, 18] (by decide +kernel) (by decide +kernel)
set_option maxRecDepth 20000 in
theorem gX0_isTold_X3_cellAt : GoodIn wsX0_isTold (wsV RX0 21 RX3 yX3_cellAt wsX3_cellAt) := goodIn_app (goodIn_of _ (by decide +kernel)) ggX0_isTold_X3_cellAt
set_option maxRecDepth 20000 in
theorem ggX0_isTold_X0_firstsWith : GoodIn wsX0_isTold wsX0_firstsWith := goodIn_r _ [15] (by decide +kernel) (by decide +kernel)
set_option maxRecDepth 20000 in
theorem gX0_isTold_X0_firstsWith : GoodIn wsX0_isTold (va_wsS RX0 27 yX0_firstsWith wsX0_firstsWith) := goodIn_app (goodIn_of _ (by decide +kernel)) ggX0_isTold_X0_firstsWith
theorem dX0_isTold_0 : decode cX0_isTold 0 = .ok (.iconst 0, 1) := by decide +kernel
theorem dX0_isTold_1 : decode cX0_isTold 1 = .ok (.istore_n 3, 1) := by decide +kernel
theorem dX0_isTold_2 : decode cX0_isTold 2 = .ok (.iload_n 3, 1) := by decide +kernel
theorem dX0_isTold_3 : decode cX0_isTold 3 = .ok (.iload_n 2, 1) := by decide +kernel
theorem dX0_isTold_4 : decode cX0_isTold 4 = .ok (.if_icmp .ge 62, 3) := by decide +kernel
theorem dX0_isTold_7 : decode cX0_isTold 7 = .ok (.aload_n 0, 1) := by decide +kernel
theorem dX0_isTold_8 : decode cX0_isTold 8 = .ok (.iload_n 1, 1) := by decide +kernel
theorem dX0_isTold_9 : decode cX0_isTold 9 = .ok (.iconst 2, 1) := by decide +kernel
theorem dX0_isTold_10 : decode cX0_isTold 10 = .ok (.iload_n 3, 1) := by decide +kernel
theorem dX0_isTold_11 : decode cX0_isTold 11 = .ok (.imul, 1) := by decide +kernel
theorem dX0_isTold_12 : decode cX0_isTold 12 = .ok (.iadd, 1) := by decide +kernel
theorem dX0_isTold_13 : decode cX0_isTold 13 = .ok (.invokevirtual 21, 3) := by decide +kernel
theorem dX0_isTold_16 : decode cX0_isTold 16 = .ok (.istore 4, 2) := by decide +kernel
theorem dX0_isTold_18 : decode cX0_isTold 18 = .ok (.aload_n 0, 1) := by decide +kernel
theorem dX0_isTold_19 : decode cX0_isTold 19 = .ok (.iload_n 1, 1) := by decide +kernel
theorem dX0_isTold_20 : decode cX0_isTold 20 = .ok (.iconst 2, 1) := by decide +kernel
theorem dX0_isTold_21 : decode cX0_isTold 21 = .ok (.iload_n 3, 1) := by decide +kernel
theorem dX0_isTold_22 : decode cX0_isTold 22 = .ok (.imul, 1) := by decide +kernel
theorem dX0_isTold_23 : decode cX0_isTold 23 = .ok (.iadd, 1) := by decide +kernel
theorem dX0_isTold_24 : decode cX0_isTold 24 = .ok (.iconst 1, 1) := by decide +kernel
theorem dX0_isTold_25 : decode cX0_isTold 25 = .ok (.iadd, 1) := by decide +kernel
theorem dX0_isTold_26 : decode cX0_isTold 26 = .ok (.invokevirtual 21, 3) := by decide +kernel
theorem dX0_isTold_29 : decode cX0_isTold 29 = .ok (.istore 5, 2) := by decide +kernel
theorem dX0_isTold_31 : decode cX0_isTold 31 = .ok (.iload 5, 2) := by decide +kernel
theorem dX0_isTold_33 : decode cX0_isTold 33 = .ok (.ifCond .lt 25, 3) := by decide +kernel
theorem dX0_isTold_36 : decode cX0_isTold 36 = .ok (.iload 5, 2) := by decide +kernel
theorem dX0_isTold_38 : decode cX0_isTold 38 = .ok (.bipush 10, 2) := by decide +kernel
theorem dX0_isTold_40 : decode cX0_isTold 40 = .ok (.if_icmp .gt 18, 3) := by decide +kernel
theorem dX0_isTold_43 : decode cX0_isTold 43 = .ok (.iload 4, 2) := by decide +kernel
theorem dX0_isTold_45 : decode cX0_isTold 45 = .ok (.ifCond .lt 13, 3) := by decide +kernel
theorem dX0_isTold_48 : decode cX0_isTold 48 = .ok (.iload 4, 2) := by decide +kernel
theorem dX0_isTold_50 : decode cX0_isTold 50 = .ok (.iload 5, 2) := by decide +kernel
theorem dX0_isTold_52 : decode cX0_isTold 52 = .ok (.invokestatic 27, 3) := by decide +kernel
theorem dX0_isTold_55 : decode cX0_isTold 55 = .ok (.if_icmp .lt 5, 3) := by decide +kernel
theorem dX0_isTold_58 : decode cX0_isTold 58 = .ok (.iconst 0, 1) := by decide +kernel
theorem dX0_isTold_59 : decode cX0_isTold 59 = .ok (.ireturn, 1) := by decide +kernel
theorem dX0_isTold_60 : decode cX0_isTold 60 = .ok (.iinc 3 1, 3) := by decide +kernel
theorem dX0_isTold_63 : decode cX0_isTold 63 = .ok (.goto (-61), 3) := by decide +kernel
theorem dX0_isTold_66 : decode cX0_isTold 66 = .ok (.iconst 1, 1) := by decide +kernel
theorem dX0_isTold_67 : decode cX0_isTold 67 = .ok (.ireturn, 1) := by decide +kernel
theorem dX0_firstsWith_0 : decode cX0_firstsWith 0 = .ok (.iload_n 0, 1) := by decide +kernel
theorem dX0_firstsWith_1 : decode cX0_firstsWith 1 = .ok (.iconst 5, 1) := by decide +kernel
theorem dX0_firstsWith_2 : decode cX0_firstsWith 2 = .ok (.if_icmp .ne 6, 3) := by decide +kernel
theorem dX0_firstsWith_5 : decode cX0_firstsWith 5 = .ok (.bipush 16, 2) := by decide +kernel
theorem dX0_firstsWith_7 : decode cX0_firstsWith 7 = .ok (.ireturn, 1) := by decide +kernel
theorem dX0_firstsWith_8 : decode cX0_firstsWith 8 = .ok (.iload_n 0, 1) := by decide +kernel
theorem dX0_firstsWith_9 : decode cX0_firstsWith 9 = .ok (.iconst 5, 1) := by decide +kernel
theorem dX0_firstsWith_10 : decode cX0_firstsWith 10 = .ok (.if_icmp .ge 7, 3) := by decide +kernel
theorem dX0_firstsWith_13 : decode cX0_firstsWith 13 = .ok (.iconst 1, 1) := by decide +kernel
theorem dX0_firstsWith_14 : decode cX0_firstsWith 14 = .ok (.goto 4, 3) := by decide +kernel
theorem dX0_firstsWith_17 : decode cX0_firstsWith 17 = .ok (.iconst 4, 1) := by decide +kernel
theorem dX0_firstsWith_18 : decode cX0_firstsWith 18 = .ok (.ireturn, 1) := by decide +kernel
set_option maxRecDepth 20000 in
theorem ggX0_pass_X5_begin : GoodIn wsX0_pass wsX5_begin := goodIn_r _ [8, 9, 10, 11, 12, 13, 14, 15, 16, 90, 91, 92, 93, 94, 95, 96, 97, 98, 99, 100, 101, 102, 103, 104] (by decide +kernel) (by decide +kernel)
set_option maxRecDepth 20000 in
theorem gX0_pass_X5_begin : GoodIn wsX0_pass (wsV RX0 30 RX5 yX5_begin wsX5_begin) := goodIn_app (goodIn_of _ (by decide +kernel)) ggX0_pass_X5_begin
set_option maxRecDepth 20000 in
theorem ggX0_pass_X3_cellAt : GoodIn wsX0_pass wsX3_cellAt := goodIn_r _ [21, 22, 23, 24, 25, 20, 26, 27, 105, 106, 107] (by decide +kernel) (by decide +kernel)
set_option maxRecDepth 20000 in
theorem gX0_pass_X3_cellAt : GoodIn wsX0_pass (wsV RX0 21 RX3 yX3_cellAt wsX3_cellAt) := goodIn_app (goodIn_of _ (by decide +kernel)) ggX0_pass_X3_cellAt
set_option maxRecDepth 20000 in
theorem ggX0_pass_X0_comesRight : GoodIn wsX0_pass wsX0_comesRight := goodIn_r _ [32, 33, 34, 35, 36, 37, 38, 39, 40, 41, 31, 42, 1, 2, 43, 44, 45, 7, 46, 9, 47, 48, 49, 50, 51, 52, 53, 54, 10, 55, 56, 57, 58, 59, 60, 61, 62, 63, 64, 65, 66, 67, 68, 69, 70, 71, 72, 73, 74, 16, 75, 76, 77, 78, 79, 80, 81, 82, 83, 84, 85, 86, 15, 90, 91, 92, 93, 94, 95, 96, 97, 98, 99, 100, 101, 102, 103, 104, 87, 88, 89] (by decide +kernel) (by decide +kernel)
set_option maxRecDepth 20000 in
theorem gX0_pass_X0_comesRight : GoodIn wsX0_pass (wsV RX0 35 RX0 yX0_comesRight wsX0_comesRight) := goodIn_app (goodIn_of _ (by decide +kernel)) ggX0_pass_X0_comesRight
theorem dX0_pass_0 : decode cX0_pass 0 = .ok (.aload_n 0, 1) := by decide +kernel
theorem dX0_pass_1 : decode cX0_pass 1 = .ok (.iconst 0, 1) := by decide +kernel
theorem dX0_pass_2 : decode cX0_pass 2 = .ok (.putfield 9, 3) := by decide +kernel
theorem dX0_pass_5 : decode cX0_pass 5 = .ok (.aload_n 0, 1) := by decide +kernel
theorem dX0_pass_6 : decode cX0_pass 6 = .ok (.iconst 0, 1) := by decide +kernel
theorem dX0_pass_7 : decode cX0_pass 7 = .ok (.putfield 15, 3) := by decide +kernel
theorem dX0_pass_10 : decode cX0_pass 10 = .ok (.aload_n 0, 1) := by decide +kernel
theorem dX0_pass_11 : decode cX0_pass 11 = .ok (.bipush (-9), 2) := by decide +kernel
theorem dX0_pass_13 : decode cX0_pass 13 = .ok (.putfield 18, 3) := by decide +kernel
theorem dX0_pass_16 : decode cX0_pass 16 = .ok (.aload_n 1, 1) := by decide +kernel
theorem dX0_pass_17 : decode cX0_pass 17 = .ok (.invokevirtual 30, 3) := by decide +kernel
theorem dX0_pass_20 : decode cX0_pass 20 = .ok (.iconst 0, 1) := by decide +kernel
theorem dX0_pass_21 : decode cX0_pass 21 = .ok (.istore 5, 2) := by decide +kernel
theorem dX0_pass_23 : decode cX0_pass 23 = .ok (.iload 5, 2) := by decide +kernel
theorem dX0_pass_25 : decode cX0_pass 25 = .ok (.iload 4, 2) := by decide +kernel
theorem dX0_pass_27 : decode cX0_pass 27 = .ok (.if_icmp .ge 62, 3) := by decide +kernel
theorem dX0_pass_30 : decode cX0_pass 30 = .ok (.aload_n 0, 1) := by decide +kernel
theorem dX0_pass_31 : decode cX0_pass 31 = .ok (.getfield 18, 3) := by decide +kernel
theorem dX0_pass_34 : decode cX0_pass 34 = .ok (.bipush (-9), 2) := by decide +kernel
theorem dX0_pass_36 : decode cX0_pass 36 = .ok (.if_icmp .ne 53, 3) := by decide +kernel
theorem dX0_pass_39 : decode cX0_pass 39 = .ok (.aload_n 2, 1) := by decide +kernel
theorem dX0_pass_40 : decode cX0_pass 40 = .ok (.iload_n 3, 1) := by decide +kernel
theorem dX0_pass_41 : decode cX0_pass 41 = .ok (.iconst 2, 1) := by decide +kernel
theorem dX0_pass_42 : decode cX0_pass 42 = .ok (.iload 5, 2) := by decide +kernel
theorem dX0_pass_44 : decode cX0_pass 44 = .ok (.imul, 1) := by decide +kernel
theorem dX0_pass_45 : decode cX0_pass 45 = .ok (.iadd, 1) := by decide +kernel
theorem dX0_pass_46 : decode cX0_pass 46 = .ok (.invokevirtual 21, 3) := by decide +kernel
theorem dX0_pass_49 : decode cX0_pass 49 = .ok (.istore 6, 2) := by decide +kernel
theorem dX0_pass_51 : decode cX0_pass 51 = .ok (.aload_n 2, 1) := by decide +kernel
theorem dX0_pass_52 : decode cX0_pass 52 = .ok (.iload_n 3, 1) := by decide +kernel
theorem dX0_pass_53 : decode cX0_pass 53 = .ok (.iconst 2, 1) := by decide +kernel
theorem dX0_pass_54 : decode cX0_pass 54 = .ok (.iload 5, 2) := by decide +kernel
theorem dX0_pass_56 : decode cX0_pass 56 = .ok (.imul, 1) := by decide +kernel
theorem dX0_pass_57 : decode cX0_pass 57 = .ok (.iadd, 1) := by decide +kernel
theorem dX0_pass_58 : decode cX0_pass 58 = .ok (.iconst 1, 1) := by decide +kernel
theorem dX0_pass_59 : decode cX0_pass 59 = .ok (.iadd, 1) := by decide +kernel
theorem dX0_pass_60 : decode cX0_pass 60 = .ok (.invokevirtual 21, 3) := by decide +kernel
theorem dX0_pass_63 : decode cX0_pass 63 = .ok (.istore 7, 2) := by decide +kernel
theorem dX0_pass_65 : decode cX0_pass 65 = .ok (.aload_n 0, 1) := by decide +kernel
theorem dX0_pass_66 : decode cX0_pass 66 = .ok (.aload_n 1, 1) := by decide +kernel
theorem dX0_pass_67 : decode cX0_pass 67 = .ok (.iload 6, 2) := by decide +kernel
theorem dX0_pass_69 : decode cX0_pass 69 = .ok (.iload 7, 2) := by decide +kernel
theorem dX0_pass_71 : decode cX0_pass 71 = .ok (.invokevirtual 35, 3) := by decide +kernel
theorem dX0_pass_74 : decode cX0_pass 74 = .ok (.ifCond .ne 9, 3) := by decide +kernel
theorem dX0_pass_77 : decode cX0_pass 77 = .ok (.aload_n 0, 1) := by decide +kernel
theorem dX0_pass_78 : decode cX0_pass 78 = .ok (.iload 5, 2) := by decide +kernel
theorem dX0_pass_80 : decode cX0_pass 80 = .ok (.putfield 18, 3) := by decide +kernel
theorem dX0_pass_83 : decode cX0_pass 83 = .ok (.iinc 5 1, 3) := by decide +kernel
theorem dX0_pass_86 : decode cX0_pass 86 = .ok (.goto (-63), 3) := by decide +kernel
theorem dX0_pass_89 : decode cX0_pass 89 = .ok (.return_, 1) := by decide +kernel
set_option maxRecDepth 20000 in
theorem ggX0_comesRight_X1_has : GoodIn wsX0_comesRight wsX1_has := goodIn_r _ [5, 6, 72, 73, 74, 75, 76, 77] (by decide +kernel) (by decide +kernel)
set_option maxRecDepth 20000 in
theorem gX0_comesRight_X1_has : GoodIn wsX0_comesRight (wsV RX0 46 RX1 yX1_has wsX1_has) := goodIn_app (goodIn_of _ (by decide +kernel)) ggX0_comesRight_X1_has
set_option maxRecDepth 20000 in
theorem ggX0_comesRight_X0_lastsThroughRun : GoodIn wsX0_comesRight wsX0_lastsThroughRun := goodIn_r _ [11, 12, 13, 14, 15, 16, 17, 18, 19, 20, 21, 22, 23, 24, 25, 26, 27, 28, 29, 30, 31, 4, 32, 33, 34, 35, 36, 37, 38, 39, 2, 3, 5, 6, 40, 41, 42, 43, 44, 45, 46, 47, 48, 49, 50, 51, 52, 53, 54, 55, 56, 57, 58, 59, 60, 61, 62, 78, 79, 80, 63, 64, 65, 66, 67, 68, 69, 70, 71, 72, 73, 74, 75, 76, 77] (by decide +kernel) (by decide +kernel)
set_option maxRecDepth 20000 in
theorem gX0_comesRight_X0_lastsThroughRun : GoodIn wsX0_comesRight (wsV RX0 52 RX0 yX0_lastsThroughRun wsX0_lastsThroughRun) := goodIn_app (goodIn_of _ (by decide +kernel)) ggX0_comesRight_X0_lastsThroughRun
theorem dX0_comesRight_0 : decode cX0_comesRight 0 = .ok (.iload_n 3, 1) := by decide +kernel
theorem dX0_comesRight_1 : decode cX0_comesRight 1 = .ok (.iconst 5, 1) := by decide +kernel
theorem dX0_comesRight_2 : decode cX0_comesRight 2 = .ok (.if_icmp .ne 10, 3) := by decide +kernel
theorem dX0_comesRight_5 : decode cX0_comesRight 5 = .ok (.aload_n 1, 1) := by decide +kernel
theorem dX0_comesRight_6 : decode cX0_comesRight 6 = .ok (.iload_n 2, 1) := by decide +kernel
theorem dX0_comesRight_7 : decode cX0_comesRight 7 = .ok (.putfield 39, 3) := by decide +kernel
theorem dX0_comesRight_10 : decode cX0_comesRight 10 = .ok (.iconst 1, 1) := by decide +kernel
theorem dX0_comesRight_11 : decode cX0_comesRight 11 = .ok (.ireturn, 1) := by decide +kernel
theorem dX0_comesRight_12 : decode cX0_comesRight 12 = .ok (.iload_n 3, 1) := by decide +kernel
theorem dX0_comesRight_13 : decode cX0_comesRight 13 = .ok (.iconst 5, 1) := by decide +kernel
theorem dX0_comesRight_14 : decode cX0_comesRight 14 = .ok (.if_icmp .ge 29, 3) := by decide +kernel
theorem dX0_comesRight_17 : decode cX0_comesRight 17 = .ok (.aload_n 1, 1) := by decide +kernel
theorem dX0_comesRight_18 : decode cX0_comesRight 18 = .ok (.getfield 42, 3) := by decide +kernel
theorem dX0_comesRight_21 : decode cX0_comesRight 21 = .ok (.iload_n 3, 1) := by decide +kernel
theorem dX0_comesRight_22 : decode cX0_comesRight 22 = .ok (.invokevirtual 46, 3) := by decide +kernel
theorem dX0_comesRight_25 : decode cX0_comesRight 25 = .ok (.ifCond .eq 16, 3) := by decide +kernel
theorem dX0_comesRight_28 : decode cX0_comesRight 28 = .ok (.aload_n 0, 1) := by decide +kernel
theorem dX0_comesRight_29 : decode cX0_comesRight 29 = .ok (.aload_n 1, 1) := by decide +kernel
theorem dX0_comesRight_30 : decode cX0_comesRight 30 = .ok (.iload_n 3, 1) := by decide +kernel
theorem dX0_comesRight_31 : decode cX0_comesRight 31 = .ok (.invokevirtual 52, 3) := by decide +kernel
theorem dX0_comesRight_34 : decode cX0_comesRight 34 = .ok (.ifCond .eq 7, 3) := by decide +kernel
theorem dX0_comesRight_37 : decode cX0_comesRight 37 = .ok (.iconst 1, 1) := by decide +kernel
theorem dX0_comesRight_38 : decode cX0_comesRight 38 = .ok (.goto 4, 3) := by decide +kernel
theorem dX0_comesRight_41 : decode cX0_comesRight 41 = .ok (.iconst 0, 1) := by decide +kernel
theorem dX0_comesRight_42 : decode cX0_comesRight 42 = .ok (.ireturn, 1) := by decide +kernel
theorem dX0_comesRight_43 : decode cX0_comesRight 43 = .ok (.iload_n 3, 1) := by decide +kernel
theorem dX0_comesRight_44 : decode cX0_comesRight 44 = .ok (.bipush 6, 2) := by decide +kernel
theorem dX0_comesRight_46 : decode cX0_comesRight 46 = .ok (.isub, 1) := by decide +kernel
theorem dX0_comesRight_47 : decode cX0_comesRight 47 = .ok (.istore 4, 2) := by decide +kernel
theorem dX0_comesRight_49 : decode cX0_comesRight 49 = .ok (.aload_n 1, 1) := by decide +kernel
theorem dX0_comesRight_50 : decode cX0_comesRight 50 = .ok (.getfield 42, 3) := by decide +kernel
theorem dX0_comesRight_53 : decode cX0_comesRight 53 = .ok (.iload 4, 2) := by decide +kernel
theorem dX0_comesRight_55 : decode cX0_comesRight 55 = .ok (.invokevirtual 46, 3) := by decide +kernel
theorem dX0_comesRight_58 : decode cX0_comesRight 58 = .ok (.ifCond .ne 5, 3) := by decide +kernel
theorem dX0_comesRight_61 : decode cX0_comesRight 61 = .ok (.iconst 0, 1) := by decide +kernel
theorem dX0_comesRight_62 : decode cX0_comesRight 62 = .ok (.ireturn, 1) := by decide +kernel
theorem dX0_comesRight_63 : decode cX0_comesRight 63 = .ok (.aload_n 1, 1) := by decide +kernel
theorem dX0_comesRight_64 : decode cX0_comesRight 64 = .ok (.getfield 56, 3) := by decide +kernel
theorem dX0_comesRight_67 : decode cX0_comesRight 67 = .ok (.iload 4, 2) := by decide +kernel
theorem dX0_comesRight_69 : decode cX0_comesRight 69 = .ok (.iload_n 2, 1) := by decide +kernel
theorem dX0_comesRight_70 : decode cX0_comesRight 70 = .ok (.iastore, 1) := by decide +kernel
theorem dX0_comesRight_71 : decode cX0_comesRight 71 = .ok (.iconst 1, 1) := by decide +kernel
theorem dX0_comesRight_72 : decode cX0_comesRight 72 = .ok (.ireturn, 1) := by decide +kernel
set_option maxRecDepth 20000 in
theorem ggX0_lastsThroughRun_X5_settleAll : GoodIn wsX0_lastsThroughRun wsX5_settleAll := goodIn_r _ [7, 8, 9, 10, 11, 6, 12, 13, 14, 15, 16, 17, 18, 19, 20, 21, 22, 23, 24, 25, 26, 27, 28, 29, 30, 31, 32, 33, 34, 35, 36, 37, 38, 39, 40, 41, 42, 43, 44, 45, 46, 47, 48, 49, 50, 51, 52, 53, 54, 55, 56, 60, 61, 62, 63, 64, 65, 66, 67, 68, 69, 70, 71, 72, 73, 74] (by decide +kernel) (by decide +kernel)
set_option maxRecDepth 20000 in
theorem gX0_lastsThroughRun_X5_settleAll : GoodIn wsX0_lastsThroughRun (wsV RX0 60 RX5 yX5_settleAll wsX5_settleAll) := goodIn_app (goodIn_of _ (by decide +kernel)) ggX0_lastsThroughRun_X5_settleAll
theorem dX0_lastsThroughRun_0 : decode cX0_lastsThroughRun 0 = .ok (.aload_n 1, 1) := by decide +kernel
theorem dX0_lastsThroughRun_1 : decode cX0_lastsThroughRun 1 = .ok (.invokevirtual 60, 3) := by decide +kernel
theorem dX0_lastsThroughRun_4 : decode cX0_lastsThroughRun 4 = .ok (.aload_n 0, 1) := by decide +kernel
theorem dX0_lastsThroughRun_5 : decode cX0_lastsThroughRun 5 = .ok (.dup, 1) := by decide +kernel
theorem dX0_lastsThroughRun_6 : decode cX0_lastsThroughRun 6 = .ok (.getfield 9, 3) := by decide +kernel
theorem dX0_lastsThroughRun_9 : decode cX0_lastsThroughRun 9 = .ok (.aload_n 1, 1) := by decide +kernel
theorem dX0_lastsThroughRun_10 : decode cX0_lastsThroughRun 10 = .ok (.getfield 63, 3) := by decide +kernel
theorem dX0_lastsThroughRun_13 : decode cX0_lastsThroughRun 13 = .ok (.iload_n 2, 1) := by decide +kernel
theorem dX0_lastsThroughRun_14 : decode cX0_lastsThroughRun 14 = .ok (.iaload, 1) := by decide +kernel
theorem dX0_lastsThroughRun_15 : decode cX0_lastsThroughRun 15 = .ok (.iadd, 1) := by decide +kernel
theorem dX0_lastsThroughRun_16 : decode cX0_lastsThroughRun 16 = .ok (.putfield 9, 3) := by decide +kernel
theorem dX0_lastsThroughRun_19 : decode cX0_lastsThroughRun 19 = .ok (.aload_n 0, 1) := by decide +kernel
theorem dX0_lastsThroughRun_20 : decode cX0_lastsThroughRun 20 = .ok (.dup, 1) := by decide +kernel
theorem dX0_lastsThroughRun_21 : decode cX0_lastsThroughRun 21 = .ok (.getfield 15, 3) := by decide +kernel
theorem dX0_lastsThroughRun_24 : decode cX0_lastsThroughRun 24 = .ok (.aload_n 1, 1) := by decide +kernel
theorem dX0_lastsThroughRun_25 : decode cX0_lastsThroughRun 25 = .ok (.getfield 66, 3) := by decide +kernel
theorem dX0_lastsThroughRun_28 : decode cX0_lastsThroughRun 28 = .ok (.iload_n 2, 1) := by decide +kernel
theorem dX0_lastsThroughRun_29 : decode cX0_lastsThroughRun 29 = .ok (.iaload, 1) := by decide +kernel
theorem dX0_lastsThroughRun_30 : decode cX0_lastsThroughRun 30 = .ok (.iadd, 1) := by decide +kernel
theorem dX0_lastsThroughRun_31 : decode cX0_lastsThroughRun 31 = .ok (.putfield 15, 3) := by decide +kernel
theorem dX0_lastsThroughRun_34 : decode cX0_lastsThroughRun 34 = .ok (.aload_n 1, 1) := by decide +kernel
theorem dX0_lastsThroughRun_35 : decode cX0_lastsThroughRun 35 = .ok (.getfield 69, 3) := by decide +kernel
theorem dX0_lastsThroughRun_38 : decode cX0_lastsThroughRun 38 = .ok (.iload_n 2, 1) := by decide +kernel
theorem dX0_lastsThroughRun_39 : decode cX0_lastsThroughRun 39 = .ok (.iaload, 1) := by decide +kernel
theorem dX0_lastsThroughRun_40 : decode cX0_lastsThroughRun 40 = .ok (.iconst 4, 1) := by decide +kernel
theorem dX0_lastsThroughRun_41 : decode cX0_lastsThroughRun 41 = .ok (.if_icmp .ne 7, 3) := by decide +kernel
theorem dX0_lastsThroughRun_44 : decode cX0_lastsThroughRun 44 = .ok (.iconst 1, 1) := by decide +kernel
theorem dX0_lastsThroughRun_45 : decode cX0_lastsThroughRun 45 = .ok (.goto 4, 3) := by decide +kernel
theorem dX0_lastsThroughRun_48 : decode cX0_lastsThroughRun 48 = .ok (.iconst 0, 1) := by decide +kernel
theorem dX0_lastsThroughRun_49 : decode cX0_lastsThroughRun 49 = .ok (.ireturn, 1) := by decide +kernel
set_option maxRecDepth 20000 in
theorem ggX0_answer_X5_rowOfAll : GoodIn wsX0_answer wsX5_rowOfAll := goodIn_r _ [8, 9, 10, 11, 12, 13, 7, 14, 15, 16, 17, 18, 19, 20, 21, 22, 23, 24, 25, 26, 27, 28, 29, 30, 31, 32, 33, 38, 39, 40, 41, 42, 43, 44, 45, 46, 47, 48, 49, 50, 51, 52] (by decide +kernel) (by decide +kernel)
set_option maxRecDepth 20000 in
theorem gX0_answer_X5_rowOfAll : GoodIn wsX0_answer (wsV RX0 72 RX5 yX5_rowOfAll wsX5_rowOfAll) := goodIn_app (goodIn_of _ (by decide +kernel)) ggX0_answer_X5_rowOfAll
set_option maxRecDepth 20000 in
theorem ggX0_answer_X1_has : GoodIn wsX0_answer wsX1_has := goodIn_r _ [31, 32, 47, 48, 49, 50, 51, 52] (by decide +kernel) (by decide +kernel)
set_option maxRecDepth 20000 in
theorem gX0_answer_X1_has : GoodIn wsX0_answer (wsV RX0 46 RX1 yX1_has wsX1_has) := goodIn_app (goodIn_of _ (by decide +kernel)) ggX0_answer_X1_has
theorem dX0_answer_0 : decode cX0_answer 0 = .ok (.iload_n 2, 1) := by decide +kernel
theorem dX0_answer_1 : decode cX0_answer 1 = .ok (.iconst 1, 1) := by decide +kernel
theorem dX0_answer_2 : decode cX0_answer 2 = .ok (.if_icmp .ne 8, 3) := by decide +kernel
theorem dX0_answer_5 : decode cX0_answer 5 = .ok (.aload_n 0, 1) := by decide +kernel
theorem dX0_answer_6 : decode cX0_answer 6 = .ok (.getfield 18, 3) := by decide +kernel
theorem dX0_answer_9 : decode cX0_answer 9 = .ok (.ireturn, 1) := by decide +kernel
theorem dX0_answer_10 : decode cX0_answer 10 = .ok (.aload_n 0, 1) := by decide +kernel
theorem dX0_answer_11 : decode cX0_answer 11 = .ok (.getfield 18, 3) := by decide +kernel
theorem dX0_answer_14 : decode cX0_answer 14 = .ok (.bipush (-9), 2) := by decide +kernel
theorem dX0_answer_16 : decode cX0_answer 16 = .ok (.if_icmp .eq 11, 3) := by decide +kernel
theorem dX0_answer_19 : decode cX0_answer 19 = .ok (.bipush (-100), 2) := by decide +kernel
theorem dX0_answer_21 : decode cX0_answer 21 = .ok (.aload_n 0, 1) := by decide +kernel
theorem dX0_answer_22 : decode cX0_answer 22 = .ok (.getfield 18, 3) := by decide +kernel
theorem dX0_answer_25 : decode cX0_answer 25 = .ok (.isub, 1) := by decide +kernel
theorem dX0_answer_26 : decode cX0_answer 26 = .ok (.ireturn, 1) := by decide +kernel
theorem dX0_answer_27 : decode cX0_answer 27 = .ok (.iload_n 2, 1) := by decide +kernel
theorem dX0_answer_28 : decode cX0_answer 28 = .ok (.tableswitch 56 0 4 #[36, 56, 41, 46, 51], 36) := by decide +kernel
theorem dX0_answer_64 : decode cX0_answer 64 = .ok (.aload_n 0, 1) := by decide +kernel
theorem dX0_answer_65 : decode cX0_answer 65 = .ok (.getfield 9, 3) := by decide +kernel
theorem dX0_answer_68 : decode cX0_answer 68 = .ok (.ireturn, 1) := by decide +kernel
theorem dX0_answer_69 : decode cX0_answer 69 = .ok (.aload_n 0, 1) := by decide +kernel
theorem dX0_answer_70 : decode cX0_answer 70 = .ok (.getfield 15, 3) := by decide +kernel
theorem dX0_answer_73 : decode cX0_answer 73 = .ok (.ireturn, 1) := by decide +kernel
theorem dX0_answer_74 : decode cX0_answer 74 = .ok (.aload_n 1, 1) := by decide +kernel
theorem dX0_answer_75 : decode cX0_answer 75 = .ok (.getfield 39, 3) := by decide +kernel
theorem dX0_answer_78 : decode cX0_answer 78 = .ok (.ireturn, 1) := by decide +kernel
theorem dX0_answer_79 : decode cX0_answer 79 = .ok (.aload_n 1, 1) := by decide +kernel
theorem dX0_answer_80 : decode cX0_answer 80 = .ok (.invokevirtual 72, 3) := by decide +kernel
theorem dX0_answer_83 : decode cX0_answer 83 = .ok (.ireturn, 1) := by decide +kernel
theorem dX0_answer_84 : decode cX0_answer 84 = .ok (.aload_n 1, 1) := by decide +kernel
theorem dX0_answer_85 : decode cX0_answer 85 = .ok (.getfield 42, 3) := by decide +kernel
theorem dX0_answer_88 : decode cX0_answer 88 = .ok (.iload_n 2, 1) := by decide +kernel
theorem dX0_answer_89 : decode cX0_answer 89 = .ok (.bipush 10, 2) := by decide +kernel
theorem dX0_answer_91 : decode cX0_answer 91 = .ok (.isub, 1) := by decide +kernel
theorem dX0_answer_92 : decode cX0_answer 92 = .ok (.invokevirtual 46, 3) := by decide +kernel
theorem dX0_answer_95 : decode cX0_answer 95 = .ok (.ifCond .eq 15, 3) := by decide +kernel
theorem dX0_answer_98 : decode cX0_answer 98 = .ok (.aload_n 1, 1) := by decide +kernel
theorem dX0_answer_99 : decode cX0_answer 99 = .ok (.getfield 56, 3) := by decide +kernel
theorem dX0_answer_102 : decode cX0_answer 102 = .ok (.iload_n 2, 1) := by decide +kernel
theorem dX0_answer_103 : decode cX0_answer 103 = .ok (.bipush 10, 2) := by decide +kernel
theorem dX0_answer_105 : decode cX0_answer 105 = .ok (.isub, 1) := by decide +kernel
theorem dX0_answer_106 : decode cX0_answer 106 = .ok (.iaload, 1) := by decide +kernel
theorem dX0_answer_107 : decode cX0_answer 107 = .ok (.goto 5, 3) := by decide +kernel
theorem dX0_answer_110 : decode cX0_answer 110 = .ok (.bipush (-9), 2) := by decide +kernel
theorem dX0_answer_112 : decode cX0_answer 112 = .ok (.ireturn, 1) := by decide +kernel
theorem dX1_init_0 : decode cX1_init 0 = .ok (.aload_n 0, 1) := by decide +kernel
theorem dX1_init_1 : decode cX1_init 1 = .ok (.invokespecial 3, 3) := by decide +kernel
theorem dX1_init_4 : decode cX1_init 4 = .ok (.aload_n 0, 1) := by decide +kernel
theorem dX1_init_5 : decode cX1_init 5 = .ok (.iconst 5, 1) := by decide +kernel
theorem dX1_init_6 : decode cX1_init 6 = .ok (.newarray .int, 2) := by decide +kernel
theorem dX1_init_8 : decode cX1_init 8 = .ok (.putfield 9, 3) := by decide +kernel
theorem dX1_init_11 : decode cX1_init 11 = .ok (.aload_n 0, 1) := by decide +kernel
theorem dX1_init_12 : decode cX1_init 12 = .ok (.iconst 5, 1) := by decide +kernel
theorem dX1_init_13 : decode cX1_init 13 = .ok (.newarray .int, 2) := by decide +kernel
theorem dX1_init_15 : decode cX1_init 15 = .ok (.putfield 15, 3) := by decide +kernel
theorem dX1_init_18 : decode cX1_init 18 = .ok (.aload_n 0, 1) := by decide +kernel
theorem dX1_init_19 : decode cX1_init 19 = .ok (.iconst 5, 1) := by decide +kernel
theorem dX1_init_20 : decode cX1_init 20 = .ok (.newarray .int, 2) := by decide +kernel
theorem dX1_init_22 : decode cX1_init 22 = .ok (.putfield 18, 3) := by decide +kernel
theorem dX1_init_25 : decode cX1_init 25 = .ok (.aload_n 0, 1) := by decide +kernel
theorem dX1_init_26 : decode cX1_init 26 = .ok (.bipush 20, 2) := by decide +kernel
theorem dX1_init_28 : decode cX1_init 28 = .ok (.newarray .int, 2) := by decide +kernel
theorem dX1_init_30 : decode cX1_init 30 = .ok (.putfield 21, 3) := by decide +kernel
theorem dX1_init_33 : decode cX1_init 33 = .ok (.aload_n 0, 1) := by decide +kernel
theorem dX1_init_34 : decode cX1_init 34 = .ok (.iconst 0, 1) := by decide +kernel
theorem dX1_init_35 : decode cX1_init 35 = .ok (.putfield 24, 3) := by decide +kernel
theorem dX1_init_38 : decode cX1_init 38 = .ok (.aload_n 0, 1) := by decide +kernel
theorem dX1_init_39 : decode cX1_init 39 = .ok (.iconst 0, 1) := by decide +kernel
theorem dX1_init_40 : decode cX1_init 40 = .ok (.putfield 28, 3) := by decide +kernel
theorem dX1_init_43 : decode cX1_init 43 = .ok (.return_, 1) := by decide +kernel
theorem dX1_isNone_0 : decode cX1_isNone 0 = .ok (.aload_n 0, 1) := by decide +kernel
theorem dX1_isNone_1 : decode cX1_isNone 1 = .ok (.getfield 24, 3) := by decide +kernel
theorem dX1_isNone_4 : decode cX1_isNone 4 = .ok (.ifCond .ne 7, 3) := by decide +kernel
theorem dX1_isNone_7 : decode cX1_isNone 7 = .ok (.iconst 1, 1) := by decide +kernel
theorem dX1_isNone_8 : decode cX1_isNone 8 = .ok (.goto 4, 3) := by decide +kernel
theorem dX1_isNone_11 : decode cX1_isNone 11 = .ok (.iconst 0, 1) := by decide +kernel
theorem dX1_isNone_12 : decode cX1_isNone 12 = .ok (.ireturn, 1) := by decide +kernel
theorem dX1_has_0 : decode cX1_has 0 = .ok (.iload_n 1, 1) := by decide +kernel
theorem dX1_has_1 : decode cX1_has 1 = .ok (.ifCond .lt 15, 3) := by decide +kernel
theorem dX1_has_4 : decode cX1_has 4 = .ok (.iload_n 1, 1) := by decide +kernel
theorem dX1_has_5 : decode cX1_has 5 = .ok (.aload_n 0, 1) := by decide +kernel
theorem dX1_has_6 : decode cX1_has 6 = .ok (.getfield 24, 3) := by decide +kernel
theorem dX1_has_9 : decode cX1_has 9 = .ok (.if_icmp .ge 7, 3) := by decide +kernel
theorem dX1_has_12 : decode cX1_has 12 = .ok (.iconst 1, 1) := by decide +kernel
theorem dX1_has_13 : decode cX1_has 13 = .ok (.goto 4, 3) := by decide +kernel
theorem dX1_has_16 : decode cX1_has 16 = .ok (.iconst 0, 1) := by decide +kernel
theorem dX1_has_17 : decode cX1_has 17 = .ok (.ireturn, 1) := by decide +kernel
set_option maxRecDepth 20000 in
theorem ggX1_hasStep_X1_has : GoodIn wsX1_hasStep wsX1_has := goodIn_r _ [6, 7, 8, 9, 10, 11, 12, 13] (by decide +kernel) (by decide +kernel)
set_option maxRecDepth 20000 in
theorem gX1_hasStep_X1_has : GoodIn wsX1_hasStep (wsV RX1 31 RX1 yX1_has wsX1_has) := goodIn_app (goodIn_of _ (by decide +kernel)) ggX1_hasStep_X1_has
theorem dX1_hasStep_0 : decode cX1_hasStep 0 = .ok (.aload_n 0, 1) := by decide +kernel
theorem dX1_hasStep_1 : decode cX1_hasStep 1 = .ok (.iload_n 1, 1) := by decide +kernel
theorem dX1_hasStep_2 : decode cX1_hasStep 2 = .ok (.invokevirtual 31, 3) := by decide +kernel
theorem dX1_hasStep_5 : decode cX1_hasStep 5 = .ok (.ifCond .eq 21, 3) := by decide +kernel
theorem dX1_hasStep_8 : decode cX1_hasStep 8 = .ok (.iload_n 2, 1) := by decide +kernel
theorem dX1_hasStep_9 : decode cX1_hasStep 9 = .ok (.ifCond .lt 17, 3) := by decide +kernel
theorem dX1_hasStep_12 : decode cX1_hasStep 12 = .ok (.iload_n 2, 1) := by decide +kernel
theorem dX1_hasStep_13 : decode cX1_hasStep 13 = .ok (.aload_n 0, 1) := by decide +kernel
theorem dX1_hasStep_14 : decode cX1_hasStep 14 = .ok (.getfield 18, 3) := by decide +kernel
theorem dX1_hasStep_17 : decode cX1_hasStep 17 = .ok (.iload_n 1, 1) := by decide +kernel
theorem dX1_hasStep_18 : decode cX1_hasStep 18 = .ok (.iaload, 1) := by decide +kernel
theorem dX1_hasStep_19 : decode cX1_hasStep 19 = .ok (.if_icmp .ge 7, 3) := by decide +kernel
theorem dX1_hasStep_22 : decode cX1_hasStep 22 = .ok (.iconst 1, 1) := by decide +kernel
theorem dX1_hasStep_23 : decode cX1_hasStep 23 = .ok (.goto 4, 3) := by decide +kernel
theorem dX1_hasStep_26 : decode cX1_hasStep 26 = .ok (.iconst 0, 1) := by decide +kernel
theorem dX1_hasStep_27 : decode cX1_hasStep 27 = .ok (.ireturn, 1) := by decide +kernel
set_option maxRecDepth 20000 in
theorem ggX1_stepAt_X1_hasStep : GoodIn wsX1_stepAt wsX1_hasStep := goodIn_r _ [6, 7, 8, 9, 10, 5, 11, 12, 13, 14, 15, 16, 17, 18] (by decide +kernel) (by decide +kernel)
set_option maxRecDepth 20000 in
theorem gX1_stepAt_X1_hasStep : GoodIn wsX1_stepAt (wsV RX1 35 RX1 yX1_hasStep wsX1_hasStep) := goodIn_app (goodIn_of _ (by decide +kernel)) ggX1_stepAt_X1_hasStep
theorem dX1_stepAt_0 : decode cX1_stepAt 0 = .ok (.aload_n 0, 1) := by decide +kernel
theorem dX1_stepAt_1 : decode cX1_stepAt 1 = .ok (.iload_n 1, 1) := by decide +kernel
theorem dX1_stepAt_2 : decode cX1_stepAt 2 = .ok (.iload_n 2, 1) := by decide +kernel
theorem dX1_stepAt_3 : decode cX1_stepAt 3 = .ok (.invokevirtual 35, 3) := by decide +kernel
theorem dX1_stepAt_6 : decode cX1_stepAt 6 = .ok (.ifCond .eq 16, 3) := by decide +kernel
theorem dX1_stepAt_9 : decode cX1_stepAt 9 = .ok (.aload_n 0, 1) := by decide +kernel
theorem dX1_stepAt_10 : decode cX1_stepAt 10 = .ok (.getfield 21, 3) := by decide +kernel
theorem dX1_stepAt_13 : decode cX1_stepAt 13 = .ok (.iload_n 1, 1) := by decide +kernel
theorem dX1_stepAt_14 : decode cX1_stepAt 14 = .ok (.iconst 4, 1) := by decide +kernel
theorem dX1_stepAt_15 : decode cX1_stepAt 15 = .ok (.imul, 1) := by decide +kernel
theorem dX1_stepAt_16 : decode cX1_stepAt 16 = .ok (.iload_n 2, 1) := by decide +kernel
theorem dX1_stepAt_17 : decode cX1_stepAt 17 = .ok (.iadd, 1) := by decide +kernel
theorem dX1_stepAt_18 : decode cX1_stepAt 18 = .ok (.iaload, 1) := by decide +kernel
theorem dX1_stepAt_19 : decode cX1_stepAt 19 = .ok (.goto 4, 3) := by decide +kernel
theorem dX1_stepAt_22 : decode cX1_stepAt 22 = .ok (.iconst (-1), 1) := by decide +kernel
theorem dX1_stepAt_23 : decode cX1_stepAt 23 = .ok (.ireturn, 1) := by decide +kernel
set_option maxRecDepth 20000 in
theorem ggX1_setStep_X1_hasStep : GoodIn wsX1_setStep wsX1_hasStep := goodIn_r _ [6, 7, 8, 9, 10, 5, 11, 12, 13, 14, 15, 16, 17, 18] (by decide +kernel) (by decide +kernel)
set_option maxRecDepth 20000 in
theorem gX1_setStep_X1_hasStep : GoodIn wsX1_setStep (wsV RX1 35 RX1 yX1_hasStep wsX1_hasStep) := goodIn_app (goodIn_of _ (by decide +kernel)) ggX1_setStep_X1_hasStep
theorem dX1_setStep_0 : decode cX1_setStep 0 = .ok (.aload_n 0, 1) := by decide +kernel
theorem dX1_setStep_1 : decode cX1_setStep 1 = .ok (.iload_n 1, 1) := by decide +kernel
theorem dX1_setStep_2 : decode cX1_setStep 2 = .ok (.iload_n 2, 1) := by decide +kernel
theorem dX1_setStep_3 : decode cX1_setStep 3 = .ok (.invokevirtual 35, 3) := by decide +kernel
theorem dX1_setStep_6 : decode cX1_setStep 6 = .ok (.ifCond .eq 14, 3) := by decide +kernel
theorem dX1_setStep_9 : decode cX1_setStep 9 = .ok (.aload_n 0, 1) := by decide +kernel
theorem dX1_setStep_10 : decode cX1_setStep 10 = .ok (.getfield 21, 3) := by decide +kernel
theorem dX1_setStep_13 : decode cX1_setStep 13 = .ok (.iload_n 1, 1) := by decide +kernel
theorem dX1_setStep_14 : decode cX1_setStep 14 = .ok (.iconst 4, 1) := by decide +kernel
theorem dX1_setStep_15 : decode cX1_setStep 15 = .ok (.imul, 1) := by decide +kernel
theorem dX1_setStep_16 : decode cX1_setStep 16 = .ok (.iload_n 2, 1) := by decide +kernel
theorem dX1_setStep_17 : decode cX1_setStep 17 = .ok (.iadd, 1) := by decide +kernel
theorem dX1_setStep_18 : decode cX1_setStep 18 = .ok (.iload_n 3, 1) := by decide +kernel
theorem dX1_setStep_19 : decode cX1_setStep 19 = .ok (.iastore, 1) := by decide +kernel
theorem dX1_setStep_20 : decode cX1_setStep 20 = .ok (.return_, 1) := by decide +kernel
theorem dX1_stepsOfAll_0 : decode cX1_stepsOfAll 0 = .ok (.iconst 0, 1) := by decide +kernel
theorem dX1_stepsOfAll_1 : decode cX1_stepsOfAll 1 = .ok (.istore_n 1, 1) := by decide +kernel
theorem dX1_stepsOfAll_2 : decode cX1_stepsOfAll 2 = .ok (.iconst 0, 1) := by decide +kernel
theorem dX1_stepsOfAll_3 : decode cX1_stepsOfAll 3 = .ok (.istore_n 2, 1) := by decide +kernel
theorem dX1_stepsOfAll_4 : decode cX1_stepsOfAll 4 = .ok (.iload_n 2, 1) := by decide +kernel
theorem dX1_stepsOfAll_5 : decode cX1_stepsOfAll 5 = .ok (.aload_n 0, 1) := by decide +kernel
theorem dX1_stepsOfAll_6 : decode cX1_stepsOfAll 6 = .ok (.getfield 24, 3) := by decide +kernel
theorem dX1_stepsOfAll_9 : decode cX1_stepsOfAll 9 = .ok (.if_icmp .ge 18, 3) := by decide +kernel
theorem dX1_stepsOfAll_12 : decode cX1_stepsOfAll 12 = .ok (.iload_n 1, 1) := by decide +kernel
theorem dX1_stepsOfAll_13 : decode cX1_stepsOfAll 13 = .ok (.aload_n 0, 1) := by decide +kernel
theorem dX1_stepsOfAll_14 : decode cX1_stepsOfAll 14 = .ok (.getfield 18, 3) := by decide +kernel
theorem dX1_stepsOfAll_17 : decode cX1_stepsOfAll 17 = .ok (.iload_n 2, 1) := by decide +kernel
theorem dX1_stepsOfAll_18 : decode cX1_stepsOfAll 18 = .ok (.iaload, 1) := by decide +kernel
theorem dX1_stepsOfAll_19 : decode cX1_stepsOfAll 19 = .ok (.iadd, 1) := by decide +kernel
theorem dX1_stepsOfAll_20 : decode cX1_stepsOfAll 20 = .ok (.istore_n 1, 1) := by decide +kernel
theorem dX1_stepsOfAll_21 : decode cX1_stepsOfAll 21 = .ok (.iinc 2 1, 3) := by decide +kernel
theorem dX1_stepsOfAll_24 : decode cX1_stepsOfAll 24 = .ok (.goto (-20), 3) := by decide +kernel
theorem dX1_stepsOfAll_27 : decode cX1_stepsOfAll 27 = .ok (.iload_n 1, 1) := by decide +kernel
theorem dX1_stepsOfAll_28 : decode cX1_stepsOfAll 28 = .ok (.ireturn, 1) := by decide +kernel
theorem dX1_clear_0 : decode cX1_clear 0 = .ok (.aload_n 0, 1) := by decide +kernel
theorem dX1_clear_1 : decode cX1_clear 1 = .ok (.iconst 0, 1) := by decide +kernel
theorem dX1_clear_2 : decode cX1_clear 2 = .ok (.putfield 24, 3) := by decide +kernel
theorem dX1_clear_5 : decode cX1_clear 5 = .ok (.aload_n 0, 1) := by decide +kernel
theorem dX1_clear_6 : decode cX1_clear 6 = .ok (.bipush 15, 2) := by decide +kernel
theorem dX1_clear_8 : decode cX1_clear 8 = .ok (.putfield 28, 3) := by decide +kernel
theorem dX1_clear_11 : decode cX1_clear 11 = .ok (.return_, 1) := by decide +kernel
theorem dX1_addFunction_0 : decode cX1_addFunction 0 = .ok (.aload_n 0, 1) := by decide +kernel
theorem dX1_addFunction_1 : decode cX1_addFunction 1 = .ok (.getfield 24, 3) := by decide +kernel
theorem dX1_addFunction_4 : decode cX1_addFunction 4 = .ok (.iconst 5, 1) := by decide +kernel
theorem dX1_addFunction_5 : decode cX1_addFunction 5 = .ok (.if_icmp .lt 5, 3) := by decide +kernel
theorem dX1_addFunction_8 : decode cX1_addFunction 8 = .ok (.iconst 0, 1) := by decide +kernel
theorem dX1_addFunction_9 : decode cX1_addFunction 9 = .ok (.ireturn, 1) := by decide +kernel
theorem dX1_addFunction_10 : decode cX1_addFunction 10 = .ok (.aload_n 0, 1) := by decide +kernel
theorem dX1_addFunction_11 : decode cX1_addFunction 11 = .ok (.getfield 18, 3) := by decide +kernel
theorem dX1_addFunction_14 : decode cX1_addFunction 14 = .ok (.aload_n 0, 1) := by decide +kernel
theorem dX1_addFunction_15 : decode cX1_addFunction 15 = .ok (.getfield 24, 3) := by decide +kernel
theorem dX1_addFunction_18 : decode cX1_addFunction 18 = .ok (.iconst 0, 1) := by decide +kernel
theorem dX1_addFunction_19 : decode cX1_addFunction 19 = .ok (.iastore, 1) := by decide +kernel
theorem dX1_addFunction_20 : decode cX1_addFunction 20 = .ok (.aload_n 0, 1) := by decide +kernel
theorem dX1_addFunction_21 : decode cX1_addFunction 21 = .ok (.dup, 1) := by decide +kernel
theorem dX1_addFunction_22 : decode cX1_addFunction 22 = .ok (.getfield 24, 3) := by decide +kernel
theorem dX1_addFunction_25 : decode cX1_addFunction 25 = .ok (.iconst 1, 1) := by decide +kernel
theorem dX1_addFunction_26 : decode cX1_addFunction 26 = .ok (.iadd, 1) := by decide +kernel
theorem dX1_addFunction_27 : decode cX1_addFunction 27 = .ok (.putfield 24, 3) := by decide +kernel
theorem dX1_addFunction_30 : decode cX1_addFunction 30 = .ok (.iconst 1, 1) := by decide +kernel
theorem dX1_addFunction_31 : decode cX1_addFunction 31 = .ok (.ireturn, 1) := by decide +kernel
set_option maxRecDepth 20000 in
theorem ggX1_addStep_X1_has : GoodIn wsX1_addStep wsX1_has := goodIn_r _ [7, 8, 9, 10, 11, 12, 13, 14] (by decide +kernel) (by decide +kernel)
set_option maxRecDepth 20000 in
theorem gX1_addStep_X1_has : GoodIn wsX1_addStep (wsV RX1 31 RX1 yX1_has wsX1_has) := goodIn_app (goodIn_of _ (by decide +kernel)) ggX1_addStep_X1_has
theorem dX1_addStep_0 : decode cX1_addStep 0 = .ok (.aload_n 0, 1) := by decide +kernel
theorem dX1_addStep_1 : decode cX1_addStep 1 = .ok (.iload_n 1, 1) := by decide +kernel
theorem dX1_addStep_2 : decode cX1_addStep 2 = .ok (.invokevirtual 31, 3) := by decide +kernel
theorem dX1_addStep_5 : decode cX1_addStep 5 = .ok (.ifCond .eq 13, 3) := by decide +kernel
theorem dX1_addStep_8 : decode cX1_addStep 8 = .ok (.aload_n 0, 1) := by decide +kernel
theorem dX1_addStep_9 : decode cX1_addStep 9 = .ok (.getfield 18, 3) := by decide +kernel
theorem dX1_addStep_12 : decode cX1_addStep 12 = .ok (.iload_n 1, 1) := by decide +kernel
theorem dX1_addStep_13 : decode cX1_addStep 13 = .ok (.iaload, 1) := by decide +kernel
theorem dX1_addStep_14 : decode cX1_addStep 14 = .ok (.iconst 4, 1) := by decide +kernel
theorem dX1_addStep_15 : decode cX1_addStep 15 = .ok (.if_icmp .lt 5, 3) := by decide +kernel
theorem dX1_addStep_18 : decode cX1_addStep 18 = .ok (.iconst 0, 1) := by decide +kernel
theorem dX1_addStep_19 : decode cX1_addStep 19 = .ok (.ireturn, 1) := by decide +kernel
theorem dX1_addStep_20 : decode cX1_addStep 20 = .ok (.aload_n 0, 1) := by decide +kernel
theorem dX1_addStep_21 : decode cX1_addStep 21 = .ok (.getfield 21, 3) := by decide +kernel
theorem dX1_addStep_24 : decode cX1_addStep 24 = .ok (.iload_n 1, 1) := by decide +kernel
theorem dX1_addStep_25 : decode cX1_addStep 25 = .ok (.iconst 4, 1) := by decide +kernel
theorem dX1_addStep_26 : decode cX1_addStep 26 = .ok (.imul, 1) := by decide +kernel
theorem dX1_addStep_27 : decode cX1_addStep 27 = .ok (.aload_n 0, 1) := by decide +kernel
theorem dX1_addStep_28 : decode cX1_addStep 28 = .ok (.getfield 18, 3) := by decide +kernel
theorem dX1_addStep_31 : decode cX1_addStep 31 = .ok (.iload_n 1, 1) := by decide +kernel
theorem dX1_addStep_32 : decode cX1_addStep 32 = .ok (.iaload, 1) := by decide +kernel
theorem dX1_addStep_33 : decode cX1_addStep 33 = .ok (.iadd, 1) := by decide +kernel
theorem dX1_addStep_34 : decode cX1_addStep 34 = .ok (.iload_n 2, 1) := by decide +kernel
theorem dX1_addStep_35 : decode cX1_addStep 35 = .ok (.iastore, 1) := by decide +kernel
theorem dX1_addStep_36 : decode cX1_addStep 36 = .ok (.aload_n 0, 1) := by decide +kernel
theorem dX1_addStep_37 : decode cX1_addStep 37 = .ok (.getfield 18, 3) := by decide +kernel
theorem dX1_addStep_40 : decode cX1_addStep 40 = .ok (.iload_n 1, 1) := by decide +kernel
theorem dX1_addStep_41 : decode cX1_addStep 41 = .ok (.dup2, 1) := by decide +kernel
theorem dX1_addStep_42 : decode cX1_addStep 42 = .ok (.iaload, 1) := by decide +kernel
theorem dX1_addStep_43 : decode cX1_addStep 43 = .ok (.iconst 1, 1) := by decide +kernel
theorem dX1_addStep_44 : decode cX1_addStep 44 = .ok (.iadd, 1) := by decide +kernel
theorem dX1_addStep_45 : decode cX1_addStep 45 = .ok (.iastore, 1) := by decide +kernel
theorem dX1_addStep_46 : decode cX1_addStep 46 = .ok (.iconst 1, 1) := by decide +kernel
theorem dX1_addStep_47 : decode cX1_addStep 47 = .ok (.ireturn, 1) := by decide +kernel
theorem dX1_become_0 : decode cX1_become 0 = .ok (.aload_n 1, 1) := by decide +kernel
theorem dX1_become_1 : decode cX1_become 1 = .ok (.getfield 9, 3) := by decide +kernel
theorem dX1_become_4 : decode cX1_become 4 = .ok (.iconst 0, 1) := by decide +kernel
theorem dX1_become_5 : decode cX1_become 5 = .ok (.aload_n 0, 1) := by decide +kernel
theorem dX1_become_6 : decode cX1_become 6 = .ok (.getfield 9, 3) := by decide +kernel
theorem dX1_become_9 : decode cX1_become 9 = .ok (.iconst 0, 1) := by decide +kernel
theorem dX1_become_10 : decode cX1_become 10 = .ok (.iconst 5, 1) := by decide +kernel
theorem dX1_become_11 : decode cX1_become 11 = .ok (.invokestatic 39, 3) := by decide +kernel
theorem dX1_become_14 : decode cX1_become 14 = .ok (.aload_n 1, 1) := by decide +kernel
theorem dX1_become_15 : decode cX1_become 15 = .ok (.getfield 15, 3) := by decide +kernel
theorem dX1_become_18 : decode cX1_become 18 = .ok (.iconst 0, 1) := by decide +kernel
theorem dX1_become_19 : decode cX1_become 19 = .ok (.aload_n 0, 1) := by decide +kernel
theorem dX1_become_20 : decode cX1_become 20 = .ok (.getfield 15, 3) := by decide +kernel
theorem dX1_become_23 : decode cX1_become 23 = .ok (.iconst 0, 1) := by decide +kernel
theorem dX1_become_24 : decode cX1_become 24 = .ok (.iconst 5, 1) := by decide +kernel
theorem dX1_become_25 : decode cX1_become 25 = .ok (.invokestatic 39, 3) := by decide +kernel
theorem dX1_become_28 : decode cX1_become 28 = .ok (.aload_n 1, 1) := by decide +kernel
theorem dX1_become_29 : decode cX1_become 29 = .ok (.getfield 18, 3) := by decide +kernel
theorem dX1_become_32 : decode cX1_become 32 = .ok (.iconst 0, 1) := by decide +kernel
theorem dX1_become_33 : decode cX1_become 33 = .ok (.aload_n 0, 1) := by decide +kernel
theorem dX1_become_34 : decode cX1_become 34 = .ok (.getfield 18, 3) := by decide +kernel
theorem dX1_become_37 : decode cX1_become 37 = .ok (.iconst 0, 1) := by decide +kernel
theorem dX1_become_38 : decode cX1_become 38 = .ok (.iconst 5, 1) := by decide +kernel
theorem dX1_become_39 : decode cX1_become 39 = .ok (.invokestatic 39, 3) := by decide +kernel
theorem dX1_become_42 : decode cX1_become 42 = .ok (.aload_n 1, 1) := by decide +kernel
theorem dX1_become_43 : decode cX1_become 43 = .ok (.getfield 21, 3) := by decide +kernel
theorem dX1_become_46 : decode cX1_become 46 = .ok (.iconst 0, 1) := by decide +kernel
theorem dX1_become_47 : decode cX1_become 47 = .ok (.aload_n 0, 1) := by decide +kernel
theorem dX1_become_48 : decode cX1_become 48 = .ok (.getfield 21, 3) := by decide +kernel
theorem dX1_become_51 : decode cX1_become 51 = .ok (.iconst 0, 1) := by decide +kernel
theorem dX1_become_52 : decode cX1_become 52 = .ok (.bipush 20, 2) := by decide +kernel
theorem dX1_become_54 : decode cX1_become 54 = .ok (.invokestatic 39, 3) := by decide +kernel
theorem dX1_become_57 : decode cX1_become 57 = .ok (.aload_n 0, 1) := by decide +kernel
theorem dX1_become_58 : decode cX1_become 58 = .ok (.aload_n 1, 1) := by decide +kernel
theorem dX1_become_59 : decode cX1_become 59 = .ok (.getfield 24, 3) := by decide +kernel
theorem dX1_become_62 : decode cX1_become 62 = .ok (.putfield 24, 3) := by decide +kernel
theorem dX1_become_65 : decode cX1_become 65 = .ok (.aload_n 0, 1) := by decide +kernel
theorem dX1_become_66 : decode cX1_become 66 = .ok (.aload_n 1, 1) := by decide +kernel
theorem dX1_become_67 : decode cX1_become 67 = .ok (.getfield 28, 3) := by decide +kernel
theorem dX1_become_70 : decode cX1_become 70 = .ok (.putfield 28, 3) := by decide +kernel
theorem dX1_become_73 : decode cX1_become 73 = .ok (.return_, 1) := by decide +kernel
theorem dX2_init_0 : decode cX2_init 0 = .ok (.aload_n 0, 1) := by decide +kernel
theorem dX2_init_1 : decode cX2_init 1 = .ok (.invokespecial 3, 3) := by decide +kernel
theorem dX2_init_4 : decode cX2_init 4 = .ok (.aload_n 0, 1) := by decide +kernel
theorem dX2_init_5 : decode cX2_init 5 = .ok (.bipush 8, 2) := by decide +kernel
theorem dX2_init_7 : decode cX2_init 7 = .ok (.newarray .int, 2) := by decide +kernel
theorem dX2_init_9 : decode cX2_init 9 = .ok (.putfield 9, 3) := by decide +kernel
theorem dX2_init_12 : decode cX2_init 12 = .ok (.aload_n 0, 1) := by decide +kernel
theorem dX2_init_13 : decode cX2_init 13 = .ok (.bipush 8, 2) := by decide +kernel
theorem dX2_init_15 : decode cX2_init 15 = .ok (.newarray .int, 2) := by decide +kernel
theorem dX2_init_17 : decode cX2_init 17 = .ok (.putfield 15, 3) := by decide +kernel
theorem dX2_init_20 : decode cX2_init 20 = .ok (.aload_n 0, 1) := by decide +kernel
theorem dX2_init_21 : decode cX2_init 21 = .ok (.iconst 0, 1) := by decide +kernel
theorem dX2_init_22 : decode cX2_init 22 = .ok (.putfield 18, 3) := by decide +kernel
theorem dX2_init_25 : decode cX2_init 25 = .ok (.return_, 1) := by decide +kernel
theorem dX2_add_0 : decode cX2_add 0 = .ok (.aload_n 0, 1) := by decide +kernel
theorem dX2_add_1 : decode cX2_add 1 = .ok (.getfield 18, 3) := by decide +kernel
theorem dX2_add_4 : decode cX2_add 4 = .ok (.bipush 8, 2) := by decide +kernel
theorem dX2_add_6 : decode cX2_add 6 = .ok (.if_icmp .lt 6, 3) := by decide +kernel
theorem dX2_add_9 : decode cX2_add 9 = .ok (.bipush (-4), 2) := by decide +kernel
theorem dX2_add_11 : decode cX2_add 11 = .ok (.ireturn, 1) := by decide +kernel
theorem dX2_add_12 : decode cX2_add 12 = .ok (.aload_n 0, 1) := by decide +kernel
theorem dX2_add_13 : decode cX2_add 13 = .ok (.getfield 9, 3) := by decide +kernel
theorem dX2_add_16 : decode cX2_add 16 = .ok (.aload_n 0, 1) := by decide +kernel
theorem dX2_add_17 : decode cX2_add 17 = .ok (.getfield 18, 3) := by decide +kernel
theorem dX2_add_20 : decode cX2_add 20 = .ok (.iload_n 1, 1) := by decide +kernel
theorem dX2_add_21 : decode cX2_add 21 = .ok (.iastore, 1) := by decide +kernel
theorem dX2_add_22 : decode cX2_add 22 = .ok (.aload_n 0, 1) := by decide +kernel
theorem dX2_add_23 : decode cX2_add 23 = .ok (.getfield 15, 3) := by decide +kernel
theorem dX2_add_26 : decode cX2_add 26 = .ok (.aload_n 0, 1) := by decide +kernel
theorem dX2_add_27 : decode cX2_add 27 = .ok (.getfield 18, 3) := by decide +kernel
theorem dX2_add_30 : decode cX2_add 30 = .ok (.iload_n 2, 1) := by decide +kernel
theorem dX2_add_31 : decode cX2_add 31 = .ok (.iastore, 1) := by decide +kernel
theorem dX2_add_32 : decode cX2_add 32 = .ok (.aload_n 0, 1) := by decide +kernel
theorem dX2_add_33 : decode cX2_add 33 = .ok (.dup, 1) := by decide +kernel
theorem dX2_add_34 : decode cX2_add 34 = .ok (.getfield 18, 3) := by decide +kernel
theorem dX2_add_37 : decode cX2_add 37 = .ok (.iconst 1, 1) := by decide +kernel
theorem dX2_add_38 : decode cX2_add 38 = .ok (.iadd, 1) := by decide +kernel
theorem dX2_add_39 : decode cX2_add 39 = .ok (.putfield 18, 3) := by decide +kernel
theorem dX2_add_42 : decode cX2_add 42 = .ok (.aload_n 0, 1) := by decide +kernel
theorem dX2_add_43 : decode cX2_add 43 = .ok (.getfield 18, 3) := by decide +kernel
theorem dX2_add_46 : decode cX2_add 46 = .ok (.iconst 1, 1) := by decide +kernel
theorem dX2_add_47 : decode cX2_add 47 = .ok (.isub, 1) := by decide +kernel
theorem dX2_add_48 : decode cX2_add 48 = .ok (.ireturn, 1) := by decide +kernel
theorem dX2_takeBack_0 : decode cX2_takeBack 0 = .ok (.aload_n 0, 1) := by decide +kernel
theorem dX2_takeBack_1 : decode cX2_takeBack 1 = .ok (.iconst 0, 1) := by decide +kernel
theorem dX2_takeBack_2 : decode cX2_takeBack 2 = .ok (.aload_n 0, 1) := by decide +kernel
theorem dX2_takeBack_3 : decode cX2_takeBack 3 = .ok (.getfield 18, 3) := by decide +kernel
theorem dX2_takeBack_6 : decode cX2_takeBack 6 = .ok (.iload_n 1, 1) := by decide +kernel
theorem dX2_takeBack_7 : decode cX2_takeBack 7 = .ok (.isub, 1) := by decide +kernel
theorem dX2_takeBack_8 : decode cX2_takeBack 8 = .ok (.invokestatic 22, 3) := by decide +kernel
theorem dX2_takeBack_11 : decode cX2_takeBack 11 = .ok (.putfield 18, 3) := by decide +kernel
theorem dX2_takeBack_14 : decode cX2_takeBack 14 = .ok (.return_, 1) := by decide +kernel
set_option maxRecDepth 20000 in
theorem ggX2_areSo_X5_settleAll : GoodIn wsX2_areSo wsX5_settleAll := goodIn_r _ [8, 9, 10, 11, 12, 7, 13, 14, 15, 16, 17, 18, 19, 20, 21, 22, 23, 24, 25, 26, 27, 28, 29, 30, 31, 32, 33, 34, 35, 36, 37, 38, 39, 40, 41, 42, 43, 44, 45, 46, 47, 48, 49, 50, 51, 52, 53, 54, 55, 56, 57, 62, 63, 64, 65, 66, 67, 68, 69, 70, 71, 72, 73, 74, 75, 76] (by decide +kernel) (by decide +kernel)
set_option maxRecDepth 20000 in
theorem gX2_areSo_X5_settleAll : GoodIn wsX2_areSo (wsV RX2 28 RX5 yX5_settleAll wsX5_settleAll) := goodIn_app (goodIn_of _ (by decide +kernel)) ggX2_areSo_X5_settleAll
set_option maxRecDepth 20000 in
theorem ggX2_areSo_X1_has : GoodIn wsX2_areSo wsX1_has := goodIn_r _ [33, 34, 71, 72, 73, 74, 75, 76] (by decide +kernel) (by decide +kernel)
set_option maxRecDepth 20000 in
theorem gX2_areSo_X1_has : GoodIn wsX2_areSo (wsV RX2 37 RX1 yX1_has wsX1_has) := goodIn_app (goodIn_of _ (by decide +kernel)) ggX2_areSo_X1_has
theorem dX2_areSo_0 : decode cX2_areSo 0 = .ok (.aload_n 1, 1) := by decide +kernel
theorem dX2_areSo_1 : decode cX2_areSo 1 = .ok (.invokevirtual 28, 3) := by decide +kernel
theorem dX2_areSo_4 : decode cX2_areSo 4 = .ok (.iconst 0, 1) := by decide +kernel
theorem dX2_areSo_5 : decode cX2_areSo 5 = .ok (.istore_n 2, 1) := by decide +kernel
theorem dX2_areSo_6 : decode cX2_areSo 6 = .ok (.iload_n 2, 1) := by decide +kernel
theorem dX2_areSo_7 : decode cX2_areSo 7 = .ok (.aload_n 0, 1) := by decide +kernel
theorem dX2_areSo_8 : decode cX2_areSo 8 = .ok (.getfield 18, 3) := by decide +kernel
theorem dX2_areSo_11 : decode cX2_areSo 11 = .ok (.if_icmp .ge 44, 3) := by decide +kernel
theorem dX2_areSo_14 : decode cX2_areSo 14 = .ok (.aload_n 0, 1) := by decide +kernel
theorem dX2_areSo_15 : decode cX2_areSo 15 = .ok (.getfield 9, 3) := by decide +kernel
theorem dX2_areSo_18 : decode cX2_areSo 18 = .ok (.iload_n 2, 1) := by decide +kernel
theorem dX2_areSo_19 : decode cX2_areSo 19 = .ok (.iaload, 1) := by decide +kernel
theorem dX2_areSo_20 : decode cX2_areSo 20 = .ok (.istore_n 3, 1) := by decide +kernel
theorem dX2_areSo_21 : decode cX2_areSo 21 = .ok (.aload_n 1, 1) := by decide +kernel
theorem dX2_areSo_22 : decode cX2_areSo 22 = .ok (.getfield 33, 3) := by decide +kernel
theorem dX2_areSo_25 : decode cX2_areSo 25 = .ok (.iload_n 3, 1) := by decide +kernel
theorem dX2_areSo_26 : decode cX2_areSo 26 = .ok (.invokevirtual 37, 3) := by decide +kernel
theorem dX2_areSo_29 : decode cX2_areSo 29 = .ok (.ifCond .eq 18, 3) := by decide +kernel
theorem dX2_areSo_32 : decode cX2_areSo 32 = .ok (.aload_n 1, 1) := by decide +kernel
theorem dX2_areSo_33 : decode cX2_areSo 33 = .ok (.getfield 43, 3) := by decide +kernel
theorem dX2_areSo_36 : decode cX2_areSo 36 = .ok (.iload_n 3, 1) := by decide +kernel
theorem dX2_areSo_37 : decode cX2_areSo 37 = .ok (.iaload, 1) := by decide +kernel
theorem dX2_areSo_38 : decode cX2_areSo 38 = .ok (.aload_n 0, 1) := by decide +kernel
theorem dX2_areSo_39 : decode cX2_areSo 39 = .ok (.getfield 15, 3) := by decide +kernel
theorem dX2_areSo_42 : decode cX2_areSo 42 = .ok (.iload_n 2, 1) := by decide +kernel
theorem dX2_areSo_43 : decode cX2_areSo 43 = .ok (.iaload, 1) := by decide +kernel
theorem dX2_areSo_44 : decode cX2_areSo 44 = .ok (.if_icmp .eq 5, 3) := by decide +kernel
theorem dX2_areSo_47 : decode cX2_areSo 47 = .ok (.iconst 0, 1) := by decide +kernel
theorem dX2_areSo_48 : decode cX2_areSo 48 = .ok (.ireturn, 1) := by decide +kernel
theorem dX2_areSo_49 : decode cX2_areSo 49 = .ok (.iinc 2 1, 3) := by decide +kernel
theorem dX2_areSo_52 : decode cX2_areSo 52 = .ok (.goto (-46), 3) := by decide +kernel
theorem dX2_areSo_55 : decode cX2_areSo 55 = .ok (.iconst 1, 1) := by decide +kernel
theorem dX2_areSo_56 : decode cX2_areSo 56 = .ok (.ireturn, 1) := by decide +kernel
theorem dX3_init_0 : decode cX3_init 0 = .ok (.aload_n 0, 1) := by decide +kernel
theorem dX3_init_1 : decode cX3_init 1 = .ok (.invokespecial 3, 3) := by decide +kernel
theorem dX3_init_4 : decode cX3_init 4 = .ok (.aload_n 0, 1) := by decide +kernel
theorem dX3_init_5 : decode cX3_init 5 = .ok (.bipush 60, 2) := by decide +kernel
theorem dX3_init_7 : decode cX3_init 7 = .ok (.newarray .int, 2) := by decide +kernel
theorem dX3_init_9 : decode cX3_init 9 = .ok (.putfield 9, 3) := by decide +kernel
theorem dX3_init_12 : decode cX3_init 12 = .ok (.aload_n 0, 1) := by decide +kernel
theorem dX3_init_13 : decode cX3_init 13 = .ok (.iconst (-1), 1) := by decide +kernel
theorem dX3_init_14 : decode cX3_init 14 = .ok (.putfield 15, 3) := by decide +kernel
theorem dX3_init_17 : decode cX3_init 17 = .ok (.aload_n 0, 1) := by decide +kernel
theorem dX3_init_18 : decode cX3_init 18 = .ok (.iconst 0, 1) := by decide +kernel
theorem dX3_init_19 : decode cX3_init 19 = .ok (.putfield 19, 3) := by decide +kernel
theorem dX3_init_22 : decode cX3_init 22 = .ok (.return_, 1) := by decide +kernel
theorem dX3_hasNothing_0 : decode cX3_hasNothing 0 = .ok (.aload_n 0, 1) := by decide +kernel
theorem dX3_hasNothing_1 : decode cX3_hasNothing 1 = .ok (.getfield 15, 3) := by decide +kernel
theorem dX3_hasNothing_4 : decode cX3_hasNothing 4 = .ok (.iconst (-1), 1) := by decide +kernel
theorem dX3_hasNothing_5 : decode cX3_hasNothing 5 = .ok (.if_icmp .ne 7, 3) := by decide +kernel
theorem dX3_hasNothing_8 : decode cX3_hasNothing 8 = .ok (.iconst 1, 1) := by decide +kernel
theorem dX3_hasNothing_9 : decode cX3_hasNothing 9 = .ok (.goto 4, 3) := by decide +kernel
theorem dX3_hasNothing_12 : decode cX3_hasNothing 12 = .ok (.iconst 0, 1) := by decide +kernel
theorem dX3_hasNothing_13 : decode cX3_hasNothing 13 = .ok (.ireturn, 1) := by decide +kernel
set_option maxRecDepth 20000 in
theorem ggX3_renew_J7_fill_53178 : GoodIn wsX3_renew wsJ7_fill_53178 := goodIn_r _ [7] (by decide +kernel) (by decide +kernel)
set_option maxRecDepth 20000 in
theorem gX3_renew_J7_fill_53178 : GoodIn wsX3_renew (va_wsS RX3 22 yJ7_fill_53178 wsJ7_fill_53178) := goodIn_app (goodIn_of _ (by decide +kernel)) ggX3_renew_J7_fill_53178
theorem dX3_renew_0 : decode cX3_renew 0 = .ok (.aload_n 0, 1) := by decide +kernel
theorem dX3_renew_1 : decode cX3_renew 1 = .ok (.iload_n 1, 1) := by decide +kernel
theorem dX3_renew_2 : decode cX3_renew 2 = .ok (.putfield 15, 3) := by decide +kernel
theorem dX3_renew_5 : decode cX3_renew 5 = .ok (.aload_n 0, 1) := by decide +kernel
theorem dX3_renew_6 : decode cX3_renew 6 = .ok (.iload_n 2, 1) := by decide +kernel
theorem dX3_renew_7 : decode cX3_renew 7 = .ok (.putfield 19, 3) := by decide +kernel
theorem dX3_renew_10 : decode cX3_renew 10 = .ok (.aload_n 0, 1) := by decide +kernel
theorem dX3_renew_11 : decode cX3_renew 11 = .ok (.getfield 9, 3) := by decide +kernel
theorem dX3_renew_14 : decode cX3_renew 14 = .ok (.iconst 0, 1) := by decide +kernel
theorem dX3_renew_15 : decode cX3_renew 15 = .ok (.invokestatic 22, 3) := by decide +kernel
theorem dX3_renew_18 : decode cX3_renew 18 = .ok (.return_, 1) := by decide +kernel
theorem dX3_drop_0 : decode cX3_drop 0 = .ok (.aload_n 0, 1) := by decide +kernel
theorem dX3_drop_1 : decode cX3_drop 1 = .ok (.iconst (-1), 1) := by decide +kernel
theorem dX3_drop_2 : decode cX3_drop 2 = .ok (.putfield 15, 3) := by decide +kernel
theorem dX3_drop_5 : decode cX3_drop 5 = .ok (.aload_n 0, 1) := by decide +kernel
theorem dX3_drop_6 : decode cX3_drop 6 = .ok (.iconst 0, 1) := by decide +kernel
theorem dX3_drop_7 : decode cX3_drop 7 = .ok (.putfield 19, 3) := by decide +kernel
theorem dX3_drop_10 : decode cX3_drop 10 = .ok (.return_, 1) := by decide +kernel
theorem dX3_hasCells_0 : decode cX3_hasCells 0 = .ok (.iload_n 1, 1) := by decide +kernel
theorem dX3_hasCells_1 : decode cX3_hasCells 1 = .ok (.ifCond .lt 29, 3) := by decide +kernel
theorem dX3_hasCells_4 : decode cX3_hasCells 4 = .ok (.iload_n 1, 1) := by decide +kernel
theorem dX3_hasCells_5 : decode cX3_hasCells 5 = .ok (.aload_n 0, 1) := by decide +kernel
theorem dX3_hasCells_6 : decode cX3_hasCells 6 = .ok (.getfield 19, 3) := by decide +kernel
theorem dX3_hasCells_9 : decode cX3_hasCells 9 = .ok (.if_icmp .gt 21, 3) := by decide +kernel
theorem dX3_hasCells_12 : decode cX3_hasCells 12 = .ok (.iload_n 2, 1) := by decide +kernel
theorem dX3_hasCells_13 : decode cX3_hasCells 13 = .ok (.ifCond .lt 17, 3) := by decide +kernel
theorem dX3_hasCells_16 : decode cX3_hasCells 16 = .ok (.iload_n 2, 1) := by decide +kernel
theorem dX3_hasCells_17 : decode cX3_hasCells 17 = .ok (.aload_n 0, 1) := by decide +kernel
theorem dX3_hasCells_18 : decode cX3_hasCells 18 = .ok (.getfield 19, 3) := by decide +kernel
theorem dX3_hasCells_21 : decode cX3_hasCells 21 = .ok (.iload_n 1, 1) := by decide +kernel
theorem dX3_hasCells_22 : decode cX3_hasCells 22 = .ok (.isub, 1) := by decide +kernel
theorem dX3_hasCells_23 : decode cX3_hasCells 23 = .ok (.if_icmp .gt 7, 3) := by decide +kernel
theorem dX3_hasCells_26 : decode cX3_hasCells 26 = .ok (.iconst 1, 1) := by decide +kernel
theorem dX3_hasCells_27 : decode cX3_hasCells 27 = .ok (.goto 4, 3) := by decide +kernel
theorem dX3_hasCells_30 : decode cX3_hasCells 30 = .ok (.iconst 0, 1) := by decide +kernel
theorem dX3_hasCells_31 : decode cX3_hasCells 31 = .ok (.ireturn, 1) := by decide +kernel
set_option maxRecDepth 20000 in
theorem ggX3_faultOfTaking_X3_hasNothing : GoodIn wsX3_faultOfTaking wsX3_hasNothing := goodIn_r _ [6, 1, 12, 13, 14] (by decide +kernel) (by decide +kernel)
set_option maxRecDepth 20000 in
theorem gX3_faultOfTaking_X3_hasNothing : GoodIn wsX3_faultOfTaking (wsV RX3 28 RX3 yX3_hasNothing wsX3_hasNothing) := goodIn_app (goodIn_of _ (by decide +kernel)) ggX3_faultOfTaking_X3_hasNothing
set_option maxRecDepth 20000 in
theorem ggX3_faultOfTaking_X3_hasCells : GoodIn wsX3_faultOfTaking wsX3_hasCells := goodIn_r _ [10, 11, 12, 13, 14] (by decide +kernel) (by decide +kernel)
set_option maxRecDepth 20000 in
theorem gX3_faultOfTaking_X3_hasCells : GoodIn wsX3_faultOfTaking (wsV RX3 32 RX3 yX3_hasCells wsX3_hasCells) := goodIn_app (goodIn_of _ (by decide +kernel)) ggX3_faultOfTaking_X3_hasCells
theorem dX3_faultOfTaking_0 : decode cX3_faultOfTaking 0 = .ok (.aload_n 0, 1) := by decide +kernel
theorem dX3_faultOfTaking_1 : decode cX3_faultOfTaking 1 = .ok (.invokevirtual 28, 3) := by decide +kernel
theorem dX3_faultOfTaking_4 : decode cX3_faultOfTaking 4 = .ok (.ifCond .eq 5, 3) := by decide +kernel
theorem dX3_faultOfTaking_7 : decode cX3_faultOfTaking 7 = .ok (.iconst 1, 1) := by decide +kernel
theorem dX3_faultOfTaking_8 : decode cX3_faultOfTaking 8 = .ok (.ireturn, 1) := by decide +kernel
theorem dX3_faultOfTaking_9 : decode cX3_faultOfTaking 9 = .ok (.aload_n 0, 1) := by decide +kernel
theorem dX3_faultOfTaking_10 : decode cX3_faultOfTaking 10 = .ok (.getfield 15, 3) := by decide +kernel
theorem dX3_faultOfTaking_13 : decode cX3_faultOfTaking 13 = .ok (.iload_n 1, 1) := by decide +kernel
theorem dX3_faultOfTaking_14 : decode cX3_faultOfTaking 14 = .ok (.if_icmp .eq 5, 3) := by decide +kernel
theorem dX3_faultOfTaking_17 : decode cX3_faultOfTaking 17 = .ok (.iconst 2, 1) := by decide +kernel
theorem dX3_faultOfTaking_18 : decode cX3_faultOfTaking 18 = .ok (.ireturn, 1) := by decide +kernel
theorem dX3_faultOfTaking_19 : decode cX3_faultOfTaking 19 = .ok (.iload_n 3, 1) := by decide +kernel
theorem dX3_faultOfTaking_20 : decode cX3_faultOfTaking 20 = .ok (.ifCond .ge 5, 3) := by decide +kernel
theorem dX3_faultOfTaking_23 : decode cX3_faultOfTaking 23 = .ok (.iconst 4, 1) := by decide +kernel
theorem dX3_faultOfTaking_24 : decode cX3_faultOfTaking 24 = .ok (.ireturn, 1) := by decide +kernel
theorem dX3_faultOfTaking_25 : decode cX3_faultOfTaking 25 = .ok (.aload_n 0, 1) := by decide +kernel
theorem dX3_faultOfTaking_26 : decode cX3_faultOfTaking 26 = .ok (.iload_n 2, 1) := by decide +kernel
theorem dX3_faultOfTaking_27 : decode cX3_faultOfTaking 27 = .ok (.iload_n 3, 1) := by decide +kernel
theorem dX3_faultOfTaking_28 : decode cX3_faultOfTaking 28 = .ok (.invokevirtual 32, 3) := by decide +kernel
theorem dX3_faultOfTaking_31 : decode cX3_faultOfTaking 31 = .ok (.ifCond .eq 7, 3) := by decide +kernel
theorem dX3_faultOfTaking_34 : decode cX3_faultOfTaking 34 = .ok (.iconst 0, 1) := by decide +kernel
theorem dX3_faultOfTaking_35 : decode cX3_faultOfTaking 35 = .ok (.goto 4, 3) := by decide +kernel
theorem dX3_faultOfTaking_38 : decode cX3_faultOfTaking 38 = .ok (.iconst 3, 1) := by decide +kernel
theorem dX3_faultOfTaking_39 : decode cX3_faultOfTaking 39 = .ok (.ireturn, 1) := by decide +kernel
set_option maxRecDepth 20000 in
theorem ggX3_cellAt_X3_hasCells : GoodIn wsX3_cellAt wsX3_hasCells := goodIn_r _ [6, 7, 8, 9, 10] (by decide +kernel) (by decide +kernel)
set_option maxRecDepth 20000 in
theorem gX3_cellAt_X3_hasCells : GoodIn wsX3_cellAt (wsV RX3 32 RX3 yX3_hasCells wsX3_hasCells) := goodIn_app (goodIn_of _ (by decide +kernel)) ggX3_cellAt_X3_hasCells
theorem dX3_cellAt_0 : decode cX3_cellAt 0 = .ok (.aload_n 0, 1) := by decide +kernel
theorem dX3_cellAt_1 : decode cX3_cellAt 1 = .ok (.iload_n 1, 1) := by decide +kernel
theorem dX3_cellAt_2 : decode cX3_cellAt 2 = .ok (.iconst 1, 1) := by decide +kernel
theorem dX3_cellAt_3 : decode cX3_cellAt 3 = .ok (.invokevirtual 32, 3) := by decide +kernel
theorem dX3_cellAt_6 : decode cX3_cellAt 6 = .ok (.ifCond .eq 12, 3) := by decide +kernel
theorem dX3_cellAt_9 : decode cX3_cellAt 9 = .ok (.aload_n 0, 1) := by decide +kernel
theorem dX3_cellAt_10 : decode cX3_cellAt 10 = .ok (.getfield 9, 3) := by decide +kernel
theorem dX3_cellAt_13 : decode cX3_cellAt 13 = .ok (.iload_n 1, 1) := by decide +kernel
theorem dX3_cellAt_14 : decode cX3_cellAt 14 = .ok (.iaload, 1) := by decide +kernel
theorem dX3_cellAt_15 : decode cX3_cellAt 15 = .ok (.goto 4, 3) := by decide +kernel
theorem dX3_cellAt_18 : decode cX3_cellAt 18 = .ok (.iconst 0, 1) := by decide +kernel
theorem dX3_cellAt_19 : decode cX3_cellAt 19 = .ok (.ireturn, 1) := by decide +kernel
set_option maxRecDepth 20000 in
theorem ggX3_setCell_X3_hasCells : GoodIn wsX3_setCell wsX3_hasCells := goodIn_r _ [6, 7, 13, 14, 15] (by decide +kernel) (by decide +kernel)
set_option maxRecDepth 20000 in
theorem gX3_setCell_X3_hasCells : GoodIn wsX3_setCell (wsV RX3 32 RX3 yX3_hasCells wsX3_hasCells) := goodIn_app (goodIn_of _ (by decide +kernel)) ggX3_setCell_X3_hasCells
set_option maxRecDepth 20000 in
theorem ggX3_setCell_X3_cutToLane : GoodIn wsX3_setCell wsX3_cutToLane := goodIn_r _ [11, 12, 13, 14, 15] (by decide +kernel) (by decide +kernel)
set_option maxRecDepth 20000 in
theorem gX3_setCell_X3_cutToLane : GoodIn wsX3_setCell (wsV RX3 36 RX3 yX3_cutToLane wsX3_cutToLane) := goodIn_app (goodIn_of _ (by decide +kernel)) ggX3_setCell_X3_cutToLane
theorem dX3_setCell_0 : decode cX3_setCell 0 = .ok (.aload_n 0, 1) := by decide +kernel
theorem dX3_setCell_1 : decode cX3_setCell 1 = .ok (.iload_n 1, 1) := by decide +kernel
theorem dX3_setCell_2 : decode cX3_setCell 2 = .ok (.iconst 1, 1) := by decide +kernel
theorem dX3_setCell_3 : decode cX3_setCell 3 = .ok (.invokevirtual 32, 3) := by decide +kernel
theorem dX3_setCell_6 : decode cX3_setCell 6 = .ok (.ifCond .eq 14, 3) := by decide +kernel
theorem dX3_setCell_9 : decode cX3_setCell 9 = .ok (.aload_n 0, 1) := by decide +kernel
theorem dX3_setCell_10 : decode cX3_setCell 10 = .ok (.getfield 9, 3) := by decide +kernel
theorem dX3_setCell_13 : decode cX3_setCell 13 = .ok (.iload_n 1, 1) := by decide +kernel
theorem dX3_setCell_14 : decode cX3_setCell 14 = .ok (.aload_n 0, 1) := by decide +kernel
theorem dX3_setCell_15 : decode cX3_setCell 15 = .ok (.iload_n 2, 1) := by decide +kernel
theorem dX3_setCell_16 : decode cX3_setCell 16 = .ok (.invokevirtual 36, 3) := by decide +kernel
theorem dX3_setCell_19 : decode cX3_setCell 19 = .ok (.iastore, 1) := by decide +kernel
theorem dX3_setCell_20 : decode cX3_setCell 20 = .ok (.return_, 1) := by decide +kernel
theorem dX3_cutToLane_0 : decode cX3_cutToLane 0 = .ok (.aload_n 0, 1) := by decide +kernel
theorem dX3_cutToLane_1 : decode cX3_cutToLane 1 = .ok (.getfield 15, 3) := by decide +kernel
theorem dX3_cutToLane_4 : decode cX3_cutToLane 4 = .ok (.lookupswitch 34 #[(0, 28), (1, 31)], 28) := by decide +kernel
theorem dX3_cutToLane_32 : decode cX3_cutToLane 32 = .ok (.iload_n 1, 1) := by decide +kernel
theorem dX3_cutToLane_33 : decode cX3_cutToLane 33 = .ok (.i2b, 1) := by decide +kernel
theorem dX3_cutToLane_34 : decode cX3_cutToLane 34 = .ok (.ireturn, 1) := by decide +kernel
theorem dX3_cutToLane_35 : decode cX3_cutToLane 35 = .ok (.iload_n 1, 1) := by decide +kernel
theorem dX3_cutToLane_36 : decode cX3_cutToLane 36 = .ok (.i2s, 1) := by decide +kernel
theorem dX3_cutToLane_37 : decode cX3_cutToLane 37 = .ok (.ireturn, 1) := by decide +kernel
theorem dX3_cutToLane_38 : decode cX3_cutToLane 38 = .ok (.iload_n 1, 1) := by decide +kernel
theorem dX3_cutToLane_39 : decode cX3_cutToLane 39 = .ok (.ireturn, 1) := by decide +kernel
set_option maxRecDepth 20000 in
theorem ggX4_init_X1_init : GoodIn wsX4_init wsX1_init := goodIn_r _ [10, 11, 2, 3, 12, 13, 14, 15, 16, 17, 18, 19, 20, 21, 22, 23, 24] (by decide +kernel) (by decide +kernel)
set_option maxRecDepth 20000 in
theorem gX4_init_X1_init_n11 : GoodIn wsX4_init (wsX1_init) := ggX4_init_X1_init
theorem dX4_init_0 : decode cX4_init 0 = .ok (.aload_n 0, 1) := by decide +kernel
theorem dX4_init_1 : decode cX4_init 1 = .ok (.invokespecial 3, 3) := by decide +kernel
theorem dX4_init_4 : decode cX4_init 4 = .ok (.aload_n 0, 1) := by decide +kernel
theorem dX4_init_5 : decode cX4_init 5 = .ok (.new 9, 3) := by decide +kernel
theorem dX4_init_8 : decode cX4_init 8 = .ok (.dup, 1) := by decide +kernel
theorem dX4_init_9 : decode cX4_init 9 = .ok (.invokespecial 11, 3) := by decide +kernel
theorem dX4_init_12 : decode cX4_init 12 = .ok (.putfield 12, 3) := by decide +kernel
theorem dX4_init_15 : decode cX4_init 15 = .ok (.aload_n 0, 1) := by decide +kernel
theorem dX4_init_16 : decode cX4_init 16 = .ok (.iconst 0, 1) := by decide +kernel
theorem dX4_init_17 : decode cX4_init 17 = .ok (.putfield 18, 3) := by decide +kernel
theorem dX4_init_20 : decode cX4_init 20 = .ok (.return_, 1) := by decide +kernel
set_option maxRecDepth 20000 in
theorem ggX4_firstFault_X1_clear : GoodIn wsX4_firstFault wsX1_clear := goodIn_r _ [7, 8, 9, 62, 63, 64, 65, 66, 67] (by decide +kernel) (by decide +kernel)
set_option maxRecDepth 20000 in
theorem gX4_firstFault_X1_clear : GoodIn wsX4_firstFault (wsV RX4 22 RX1 yX1_clear wsX1_clear) := goodIn_app (goodIn_of _ (by decide +kernel)) ggX4_firstFault_X1_clear
set_option maxRecDepth 20000 in
theorem ggX4_firstFault_X3_cellAt : GoodIn wsX4_firstFault wsX3_cellAt := goodIn_r _ [14, 15, 16, 17, 18, 13, 19, 20, 68, 69, 70] (by decide +kernel) (by decide +kernel)
set_option maxRecDepth 20000 in
theorem gX4_firstFault_X3_cellAt : GoodIn wsX4_firstFault (wsV RX4 25 RX3 yX3_cellAt wsX3_cellAt) := goodIn_app (goodIn_of _ (by decide +kernel)) ggX4_firstFault_X3_cellAt
set_option maxRecDepth 20000 in
theorem ggX4_firstFault_X4_goesOnWith : GoodIn wsX4_firstFault wsX4_goesOnWith := goodIn_r _ [25, 2, 26, 27, 28, 24, 29, 1, 30, 31, 32, 6, 33, 8, 34, 35, 36, 37, 38, 39, 40, 41, 42, 43, 44, 45, 46, 47, 48, 49, 50, 51, 52, 53, 54, 55, 56, 57, 58, 59, 60, 61, 62, 63, 64, 65, 66, 67] (by decide +kernel) (by decide +kernel)
set_option maxRecDepth 20000 in
theorem gX4_firstFault_X4_goesOnWith : GoodIn wsX4_firstFault (wsV RX4 31 RX4 yX4_goesOnWith wsX4_goesOnWith) := goodIn_app (goodIn_of _ (by decide +kernel)) ggX4_firstFault_X4_goesOnWith
theorem dX4_firstFault_0 : decode cX4_firstFault 0 = .ok (.aload_n 0, 1) := by decide +kernel
theorem dX4_firstFault_1 : decode cX4_firstFault 1 = .ok (.getfield 12, 3) := by decide +kernel
theorem dX4_firstFault_4 : decode cX4_firstFault 4 = .ok (.invokevirtual 22, 3) := by decide +kernel
theorem dX4_firstFault_7 : decode cX4_firstFault 7 = .ok (.aload_n 0, 1) := by decide +kernel
theorem dX4_firstFault_8 : decode cX4_firstFault 8 = .ok (.iconst 0, 1) := by decide +kernel
theorem dX4_firstFault_9 : decode cX4_firstFault 9 = .ok (.putfield 18, 3) := by decide +kernel
theorem dX4_firstFault_12 : decode cX4_firstFault 12 = .ok (.iconst 0, 1) := by decide +kernel
theorem dX4_firstFault_13 : decode cX4_firstFault 13 = .ok (.istore 4, 2) := by decide +kernel
theorem dX4_firstFault_15 : decode cX4_firstFault 15 = .ok (.iload 4, 2) := by decide +kernel
theorem dX4_firstFault_17 : decode cX4_firstFault 17 = .ok (.iload_n 3, 1) := by decide +kernel
theorem dX4_firstFault_18 : decode cX4_firstFault 18 = .ok (.if_icmp .ge 27, 3) := by decide +kernel
theorem dX4_firstFault_21 : decode cX4_firstFault 21 = .ok (.aload_n 0, 1) := by decide +kernel
theorem dX4_firstFault_22 : decode cX4_firstFault 22 = .ok (.aload_n 1, 1) := by decide +kernel
theorem dX4_firstFault_23 : decode cX4_firstFault 23 = .ok (.iload_n 2, 1) := by decide +kernel
theorem dX4_firstFault_24 : decode cX4_firstFault 24 = .ok (.iload 4, 2) := by decide +kernel
theorem dX4_firstFault_26 : decode cX4_firstFault 26 = .ok (.iadd, 1) := by decide +kernel
theorem dX4_firstFault_27 : decode cX4_firstFault 27 = .ok (.invokevirtual 25, 3) := by decide +kernel
theorem dX4_firstFault_30 : decode cX4_firstFault 30 = .ok (.invokevirtual 31, 3) := by decide +kernel
theorem dX4_firstFault_33 : decode cX4_firstFault 33 = .ok (.ifCond .ne 6, 3) := by decide +kernel
theorem dX4_firstFault_36 : decode cX4_firstFault 36 = .ok (.iload 4, 2) := by decide +kernel
theorem dX4_firstFault_38 : decode cX4_firstFault 38 = .ok (.ireturn, 1) := by decide +kernel
theorem dX4_firstFault_39 : decode cX4_firstFault 39 = .ok (.iinc 4 1, 3) := by decide +kernel
theorem dX4_firstFault_42 : decode cX4_firstFault 42 = .ok (.goto (-27), 3) := by decide +kernel
theorem dX4_firstFault_45 : decode cX4_firstFault 45 = .ok (.aload_n 0, 1) := by decide +kernel
theorem dX4_firstFault_46 : decode cX4_firstFault 46 = .ok (.getfield 18, 3) := by decide +kernel
theorem dX4_firstFault_49 : decode cX4_firstFault 49 = .ok (.iconst 4, 1) := by decide +kernel
theorem dX4_firstFault_50 : decode cX4_firstFault 50 = .ok (.if_icmp .ne 7, 3) := by decide +kernel
theorem dX4_firstFault_53 : decode cX4_firstFault 53 = .ok (.iconst (-1), 1) := by decide +kernel
theorem dX4_firstFault_54 : decode cX4_firstFault 54 = .ok (.goto 4, 3) := by decide +kernel
theorem dX4_firstFault_57 : decode cX4_firstFault 57 = .ok (.iload_n 3, 1) := by decide +kernel
theorem dX4_firstFault_58 : decode cX4_firstFault 58 = .ok (.ireturn, 1) := by decide +kernel
set_option maxRecDepth 20000 in
theorem ggX4_goesOnWith_X4_takesFunction : GoodIn wsX4_goesOnWith wsX4_takesFunction := goodIn_r _ [6, 1, 7, 8, 9, 10, 11, 12, 13, 14, 40, 41, 42, 43, 44, 45, 46, 47] (by decide +kernel) (by decide +kernel)
set_option maxRecDepth 20000 in
theorem gX4_goesOnWith_X4_takesFunction : GoodIn wsX4_goesOnWith (wsV RX4 35 RX4 yX4_takesFunction wsX4_takesFunction) := goodIn_app (goodIn_of _ (by decide +kernel)) ggX4_goesOnWith_X4_takesFunction
set_option maxRecDepth 20000 in
theorem ggX4_goesOnWith_X4_takesKind : GoodIn wsX4_goesOnWith wsX4_takesKind := goodIn_r _ [18, 7, 1, 19, 20, 5, 21, 22, 23, 24, 11, 25, 13, 40, 41, 42, 43, 44, 45, 46, 47] (by decide +kernel) (by decide +kernel)
set_option maxRecDepth 20000 in
theorem gX4_goesOnWith_X4_takesKind : GoodIn wsX4_goesOnWith (wsV RX4 38 RX4 yX4_takesKind wsX4_takesKind) := goodIn_app (goodIn_of _ (by decide +kernel)) ggX4_goesOnWith_X4_takesKind
set_option maxRecDepth 20000 in
theorem ggX4_goesOnWith_X4_takesGuard : GoodIn wsX4_goesOnWith wsX4_takesGuard := goodIn_r _ [29, 7, 1, 22, 23, 24, 11, 25, 13, 40, 41, 42, 43, 44, 45, 46, 47] (by decide +kernel) (by decide +kernel)
set_option maxRecDepth 20000 in
theorem gX4_goesOnWith_X4_takesGuard : GoodIn wsX4_goesOnWith (wsV RX4 41 RX4 yX4_takesGuard wsX4_takesGuard) := goodIn_app (goodIn_of _ (by decide +kernel)) ggX4_goesOnWith_X4_takesGuard
set_option maxRecDepth 20000 in
theorem ggX4_goesOnWith_X4_takesStep : GoodIn wsX4_goesOnWith wsX4_takesStep := goodIn_r _ [33, 7, 34, 35, 36, 11, 37, 14, 38, 39, 23, 24, 25, 13, 40, 41, 42, 43, 44, 45, 46, 47] (by decide +kernel) (by decide +kernel)
set_option maxRecDepth 20000 in
theorem gX4_goesOnWith_X4_takesStep : GoodIn wsX4_goesOnWith (wsV RX4 44 RX4 yX4_takesStep wsX4_takesStep) := goodIn_app (goodIn_of _ (by decide +kernel)) ggX4_goesOnWith_X4_takesStep
theorem dX4_goesOnWith_0 : decode cX4_goesOnWith 0 = .ok (.aload_n 0, 1) := by decide +kernel
theorem dX4_goesOnWith_1 : decode cX4_goesOnWith 1 = .ok (.getfield 18, 3) := by decide +kernel
theorem dX4_goesOnWith_4 : decode cX4_goesOnWith 4 = .ok (.tableswitch 67 0 3 #[32, 49, 55, 61], 32) := by decide +kernel
theorem dX4_goesOnWith_36 : decode cX4_goesOnWith 36 = .ok (.aload_n 0, 1) := by decide +kernel
theorem dX4_goesOnWith_37 : decode cX4_goesOnWith 37 = .ok (.iconst 1, 1) := by decide +kernel
theorem dX4_goesOnWith_38 : decode cX4_goesOnWith 38 = .ok (.putfield 18, 3) := by decide +kernel
theorem dX4_goesOnWith_41 : decode cX4_goesOnWith 41 = .ok (.iload_n 1, 1) := by decide +kernel
theorem dX4_goesOnWith_42 : decode cX4_goesOnWith 42 = .ok (.bipush 101, 2) := by decide +kernel
theorem dX4_goesOnWith_44 : decode cX4_goesOnWith 44 = .ok (.if_icmp .ne 7, 3) := by decide +kernel
theorem dX4_goesOnWith_47 : decode cX4_goesOnWith 47 = .ok (.iconst 1, 1) := by decide +kernel
theorem dX4_goesOnWith_48 : decode cX4_goesOnWith 48 = .ok (.goto 4, 3) := by decide +kernel
theorem dX4_goesOnWith_51 : decode cX4_goesOnWith 51 = .ok (.iconst 0, 1) := by decide +kernel
theorem dX4_goesOnWith_52 : decode cX4_goesOnWith 52 = .ok (.ireturn, 1) := by decide +kernel
theorem dX4_goesOnWith_53 : decode cX4_goesOnWith 53 = .ok (.aload_n 0, 1) := by decide +kernel
theorem dX4_goesOnWith_54 : decode cX4_goesOnWith 54 = .ok (.iload_n 1, 1) := by decide +kernel
theorem dX4_goesOnWith_55 : decode cX4_goesOnWith 55 = .ok (.invokevirtual 35, 3) := by decide +kernel
theorem dX4_goesOnWith_58 : decode cX4_goesOnWith 58 = .ok (.ireturn, 1) := by decide +kernel
theorem dX4_goesOnWith_59 : decode cX4_goesOnWith 59 = .ok (.aload_n 0, 1) := by decide +kernel
theorem dX4_goesOnWith_60 : decode cX4_goesOnWith 60 = .ok (.iload_n 1, 1) := by decide +kernel
theorem dX4_goesOnWith_61 : decode cX4_goesOnWith 61 = .ok (.invokevirtual 38, 3) := by decide +kernel
theorem dX4_goesOnWith_64 : decode cX4_goesOnWith 64 = .ok (.ireturn, 1) := by decide +kernel
theorem dX4_goesOnWith_65 : decode cX4_goesOnWith 65 = .ok (.aload_n 0, 1) := by decide +kernel
theorem dX4_goesOnWith_66 : decode cX4_goesOnWith 66 = .ok (.iload_n 1, 1) := by decide +kernel
theorem dX4_goesOnWith_67 : decode cX4_goesOnWith 67 = .ok (.invokevirtual 41, 3) := by decide +kernel
theorem dX4_goesOnWith_70 : decode cX4_goesOnWith 70 = .ok (.ireturn, 1) := by decide +kernel
theorem dX4_goesOnWith_71 : decode cX4_goesOnWith 71 = .ok (.iload_n 1, 1) := by decide +kernel
theorem dX4_goesOnWith_72 : decode cX4_goesOnWith 72 = .ok (.bipush 59, 2) := by decide +kernel
theorem dX4_goesOnWith_74 : decode cX4_goesOnWith 74 = .ok (.if_icmp .ne 11, 3) := by decide +kernel
theorem dX4_goesOnWith_77 : decode cX4_goesOnWith 77 = .ok (.aload_n 0, 1) := by decide +kernel
theorem dX4_goesOnWith_78 : decode cX4_goesOnWith 78 = .ok (.iload_n 1, 1) := by decide +kernel
theorem dX4_goesOnWith_79 : decode cX4_goesOnWith 79 = .ok (.invokevirtual 35, 3) := by decide +kernel
theorem dX4_goesOnWith_82 : decode cX4_goesOnWith 82 = .ok (.goto 8, 3) := by decide +kernel
theorem dX4_goesOnWith_85 : decode cX4_goesOnWith 85 = .ok (.aload_n 0, 1) := by decide +kernel
theorem dX4_goesOnWith_86 : decode cX4_goesOnWith 86 = .ok (.iload_n 1, 1) := by decide +kernel
theorem dX4_goesOnWith_87 : decode cX4_goesOnWith 87 = .ok (.invokevirtual 44, 3) := by decide +kernel
theorem dX4_goesOnWith_90 : decode cX4_goesOnWith 90 = .ok (.ireturn, 1) := by decide +kernel
set_option maxRecDepth 20000 in
theorem ggX4_takesFunction_X1_addFunction : GoodIn wsX4_takesFunction wsX1_addFunction := goodIn_r _ [7, 8, 9, 12, 13, 14, 15, 16, 17] (by decide +kernel) (by decide +kernel)
set_option maxRecDepth 20000 in
theorem gX4_takesFunction_X1_addFunction : GoodIn wsX4_takesFunction (wsV RX4 47 RX1 yX1_addFunction wsX1_addFunction) := goodIn_app (goodIn_of _ (by decide +kernel)) ggX4_takesFunction_X1_addFunction
theorem dX4_takesFunction_0 : decode cX4_takesFunction 0 = .ok (.aload_n 0, 1) := by decide +kernel
theorem dX4_takesFunction_1 : decode cX4_takesFunction 1 = .ok (.iconst 2, 1) := by decide +kernel
theorem dX4_takesFunction_2 : decode cX4_takesFunction 2 = .ok (.putfield 18, 3) := by decide +kernel
theorem dX4_takesFunction_5 : decode cX4_takesFunction 5 = .ok (.iload_n 1, 1) := by decide +kernel
theorem dX4_takesFunction_6 : decode cX4_takesFunction 6 = .ok (.bipush 59, 2) := by decide +kernel
theorem dX4_takesFunction_8 : decode cX4_takesFunction 8 = .ok (.if_icmp .ne 17, 3) := by decide +kernel
theorem dX4_takesFunction_11 : decode cX4_takesFunction 11 = .ok (.aload_n 0, 1) := by decide +kernel
theorem dX4_takesFunction_12 : decode cX4_takesFunction 12 = .ok (.getfield 12, 3) := by decide +kernel
theorem dX4_takesFunction_15 : decode cX4_takesFunction 15 = .ok (.invokevirtual 47, 3) := by decide +kernel
theorem dX4_takesFunction_18 : decode cX4_takesFunction 18 = .ok (.ifCond .eq 7, 3) := by decide +kernel
theorem dX4_takesFunction_21 : decode cX4_takesFunction 21 = .ok (.iconst 1, 1) := by decide +kernel
theorem dX4_takesFunction_22 : decode cX4_takesFunction 22 = .ok (.goto 4, 3) := by decide +kernel
theorem dX4_takesFunction_25 : decode cX4_takesFunction 25 = .ok (.iconst 0, 1) := by decide +kernel
theorem dX4_takesFunction_26 : decode cX4_takesFunction 26 = .ok (.ireturn, 1) := by decide +kernel
set_option maxRecDepth 20000 in
theorem ggX4_takesKind_X4_kindOf : GoodIn wsX4_takesKind wsX4_kindOf := goodIn_r _ [6] (by decide +kernel) (by decide +kernel)
set_option maxRecDepth 20000 in
theorem gX4_takesKind_X4_kindOf : GoodIn wsX4_takesKind (va_wsS RX4 51 yX4_kindOf wsX4_kindOf) := goodIn_app (goodIn_of _ (by decide +kernel)) ggX4_takesKind_X4_kindOf
set_option maxRecDepth 20000 in
theorem ggX4_takesKind_X1_has : GoodIn wsX4_takesKind wsX1_has := goodIn_r _ [11, 12, 15, 16, 17, 18, 19, 20] (by decide +kernel) (by decide +kernel)
set_option maxRecDepth 20000 in
theorem gX4_takesKind_X1_has : GoodIn wsX4_takesKind (wsV RX4 57 RX1 yX1_has wsX1_has) := goodIn_app (goodIn_of _ (by decide +kernel)) ggX4_takesKind_X1_has
theorem dX4_takesKind_0 : decode cX4_takesKind 0 = .ok (.iload_n 1, 1) := by decide +kernel
theorem dX4_takesKind_1 : decode cX4_takesKind 1 = .ok (.invokestatic 51, 3) := by decide +kernel
theorem dX4_takesKind_4 : decode cX4_takesKind 4 = .ok (.istore_n 2, 1) := by decide +kernel
theorem dX4_takesKind_5 : decode cX4_takesKind 5 = .ok (.aload_n 0, 1) := by decide +kernel
theorem dX4_takesKind_6 : decode cX4_takesKind 6 = .ok (.getfield 12, 3) := by decide +kernel
theorem dX4_takesKind_9 : decode cX4_takesKind 9 = .ok (.getfield 54, 3) := by decide +kernel
theorem dX4_takesKind_12 : decode cX4_takesKind 12 = .ok (.iconst 1, 1) := by decide +kernel
theorem dX4_takesKind_13 : decode cX4_takesKind 13 = .ok (.isub, 1) := by decide +kernel
theorem dX4_takesKind_14 : decode cX4_takesKind 14 = .ok (.istore_n 3, 1) := by decide +kernel
theorem dX4_takesKind_15 : decode cX4_takesKind 15 = .ok (.iload_n 2, 1) := by decide +kernel
theorem dX4_takesKind_16 : decode cX4_takesKind 16 = .ok (.ifCond .lt 14, 3) := by decide +kernel
theorem dX4_takesKind_19 : decode cX4_takesKind 19 = .ok (.aload_n 0, 1) := by decide +kernel
theorem dX4_takesKind_20 : decode cX4_takesKind 20 = .ok (.getfield 12, 3) := by decide +kernel
theorem dX4_takesKind_23 : decode cX4_takesKind 23 = .ok (.iload_n 3, 1) := by decide +kernel
theorem dX4_takesKind_24 : decode cX4_takesKind 24 = .ok (.invokevirtual 57, 3) := by decide +kernel
theorem dX4_takesKind_27 : decode cX4_takesKind 27 = .ok (.ifCond .ne 5, 3) := by decide +kernel
theorem dX4_takesKind_30 : decode cX4_takesKind 30 = .ok (.iconst 0, 1) := by decide +kernel
theorem dX4_takesKind_31 : decode cX4_takesKind 31 = .ok (.ireturn, 1) := by decide +kernel
theorem dX4_takesKind_32 : decode cX4_takesKind 32 = .ok (.aload_n 0, 1) := by decide +kernel
theorem dX4_takesKind_33 : decode cX4_takesKind 33 = .ok (.getfield 12, 3) := by decide +kernel
theorem dX4_takesKind_36 : decode cX4_takesKind 36 = .ok (.getfield 60, 3) := by decide +kernel
theorem dX4_takesKind_39 : decode cX4_takesKind 39 = .ok (.iload_n 3, 1) := by decide +kernel
theorem dX4_takesKind_40 : decode cX4_takesKind 40 = .ok (.iload_n 2, 1) := by decide +kernel
theorem dX4_takesKind_41 : decode cX4_takesKind 41 = .ok (.iastore, 1) := by decide +kernel
theorem dX4_takesKind_42 : decode cX4_takesKind 42 = .ok (.aload_n 0, 1) := by decide +kernel
theorem dX4_takesKind_43 : decode cX4_takesKind 43 = .ok (.iconst 3, 1) := by decide +kernel
theorem dX4_takesKind_44 : decode cX4_takesKind 44 = .ok (.putfield 18, 3) := by decide +kernel
theorem dX4_takesKind_47 : decode cX4_takesKind 47 = .ok (.iconst 1, 1) := by decide +kernel
theorem dX4_takesKind_48 : decode cX4_takesKind 48 = .ok (.ireturn, 1) := by decide +kernel
theorem dX4_kindOf_0 : decode cX4_kindOf 0 = .ok (.iload_n 0, 1) := by decide +kernel
theorem dX4_kindOf_1 : decode cX4_kindOf 1 = .ok (.lookupswitch 41 #[(107, 39), (108, 37), (112, 35)], 35) := by decide +kernel
theorem dX4_kindOf_36 : decode cX4_kindOf 36 = .ok (.iconst 0, 1) := by decide +kernel
theorem dX4_kindOf_37 : decode cX4_kindOf 37 = .ok (.ireturn, 1) := by decide +kernel
theorem dX4_kindOf_38 : decode cX4_kindOf 38 = .ok (.iconst 1, 1) := by decide +kernel
theorem dX4_kindOf_39 : decode cX4_kindOf 39 = .ok (.ireturn, 1) := by decide +kernel
theorem dX4_kindOf_40 : decode cX4_kindOf 40 = .ok (.iconst 2, 1) := by decide +kernel
theorem dX4_kindOf_41 : decode cX4_kindOf 41 = .ok (.ireturn, 1) := by decide +kernel
theorem dX4_kindOf_42 : decode cX4_kindOf 42 = .ok (.iconst (-1), 1) := by decide +kernel
theorem dX4_kindOf_43 : decode cX4_kindOf 43 = .ok (.ireturn, 1) := by decide +kernel
set_option maxRecDepth 20000 in
theorem ggX4_takesGuard_X1_has : GoodIn wsX4_takesGuard wsX1_has := goodIn_r _ [7, 8, 11, 12, 13, 14, 15, 16] (by decide +kernel) (by decide +kernel)
set_option maxRecDepth 20000 in
theorem gX4_takesGuard_X1_has : GoodIn wsX4_takesGuard (wsV RX4 57 RX1 yX1_has wsX1_has) := goodIn_app (goodIn_of _ (by decide +kernel)) ggX4_takesGuard_X1_has
theorem dX4_takesGuard_0 : decode cX4_takesGuard 0 = .ok (.aload_n 0, 1) := by decide +kernel
theorem dX4_takesGuard_1 : decode cX4_takesGuard 1 = .ok (.getfield 12, 3) := by decide +kernel
theorem dX4_takesGuard_4 : decode cX4_takesGuard 4 = .ok (.getfield 54, 3) := by decide +kernel
theorem dX4_takesGuard_7 : decode cX4_takesGuard 7 = .ok (.iconst 1, 1) := by decide +kernel
theorem dX4_takesGuard_8 : decode cX4_takesGuard 8 = .ok (.isub, 1) := by decide +kernel
theorem dX4_takesGuard_9 : decode cX4_takesGuard 9 = .ok (.istore_n 2, 1) := by decide +kernel
theorem dX4_takesGuard_10 : decode cX4_takesGuard 10 = .ok (.iload_n 1, 1) := by decide +kernel
theorem dX4_takesGuard_11 : decode cX4_takesGuard 11 = .ok (.bipush 48, 2) := by decide +kernel
theorem dX4_takesGuard_13 : decode cX4_takesGuard 13 = .ok (.if_icmp .lt 20, 3) := by decide +kernel
theorem dX4_takesGuard_16 : decode cX4_takesGuard 16 = .ok (.iload_n 1, 1) := by decide +kernel
theorem dX4_takesGuard_17 : decode cX4_takesGuard 17 = .ok (.bipush 52, 2) := by decide +kernel
theorem dX4_takesGuard_19 : decode cX4_takesGuard 19 = .ok (.if_icmp .ge 14, 3) := by decide +kernel
theorem dX4_takesGuard_22 : decode cX4_takesGuard 22 = .ok (.aload_n 0, 1) := by decide +kernel
theorem dX4_takesGuard_23 : decode cX4_takesGuard 23 = .ok (.getfield 12, 3) := by decide +kernel
theorem dX4_takesGuard_26 : decode cX4_takesGuard 26 = .ok (.iload_n 2, 1) := by decide +kernel
theorem dX4_takesGuard_27 : decode cX4_takesGuard 27 = .ok (.invokevirtual 57, 3) := by decide +kernel
theorem dX4_takesGuard_30 : decode cX4_takesGuard 30 = .ok (.ifCond .ne 5, 3) := by decide +kernel
theorem dX4_takesGuard_33 : decode cX4_takesGuard 33 = .ok (.iconst 0, 1) := by decide +kernel
theorem dX4_takesGuard_34 : decode cX4_takesGuard 34 = .ok (.ireturn, 1) := by decide +kernel
theorem dX4_takesGuard_35 : decode cX4_takesGuard 35 = .ok (.aload_n 0, 1) := by decide +kernel
theorem dX4_takesGuard_36 : decode cX4_takesGuard 36 = .ok (.getfield 12, 3) := by decide +kernel
theorem dX4_takesGuard_39 : decode cX4_takesGuard 39 = .ok (.getfield 64, 3) := by decide +kernel
theorem dX4_takesGuard_42 : decode cX4_takesGuard 42 = .ok (.iload_n 2, 1) := by decide +kernel
theorem dX4_takesGuard_43 : decode cX4_takesGuard 43 = .ok (.iload_n 1, 1) := by decide +kernel
theorem dX4_takesGuard_44 : decode cX4_takesGuard 44 = .ok (.bipush 48, 2) := by decide +kernel
theorem dX4_takesGuard_46 : decode cX4_takesGuard 46 = .ok (.isub, 1) := by decide +kernel
theorem dX4_takesGuard_47 : decode cX4_takesGuard 47 = .ok (.iastore, 1) := by decide +kernel
theorem dX4_takesGuard_48 : decode cX4_takesGuard 48 = .ok (.aload_n 0, 1) := by decide +kernel
theorem dX4_takesGuard_49 : decode cX4_takesGuard 49 = .ok (.iconst 4, 1) := by decide +kernel
theorem dX4_takesGuard_50 : decode cX4_takesGuard 50 = .ok (.putfield 18, 3) := by decide +kernel
theorem dX4_takesGuard_53 : decode cX4_takesGuard 53 = .ok (.iconst 1, 1) := by decide +kernel
theorem dX4_takesGuard_54 : decode cX4_takesGuard 54 = .ok (.ireturn, 1) := by decide +kernel
set_option maxRecDepth 20000 in
theorem ggX4_takesStep_X1_addStep : GoodIn wsX4_takesStep wsX1_addStep := goodIn_r _ [6, 7, 8, 9, 10, 11, 5, 12, 13, 16, 17, 18, 19, 20, 21] (by decide +kernel) (by decide +kernel)
set_option maxRecDepth 20000 in
theorem gX4_takesStep_X1_addStep : GoodIn wsX4_takesStep (wsV RX4 67 RX1 yX1_addStep wsX1_addStep) := goodIn_app (goodIn_of _ (by decide +kernel)) ggX4_takesStep_X1_addStep
theorem dX4_takesStep_0 : decode cX4_takesStep 0 = .ok (.aload_n 0, 1) := by decide +kernel
theorem dX4_takesStep_1 : decode cX4_takesStep 1 = .ok (.getfield 12, 3) := by decide +kernel
theorem dX4_takesStep_4 : decode cX4_takesStep 4 = .ok (.getfield 54, 3) := by decide +kernel
theorem dX4_takesStep_7 : decode cX4_takesStep 7 = .ok (.iconst 1, 1) := by decide +kernel
theorem dX4_takesStep_8 : decode cX4_takesStep 8 = .ok (.isub, 1) := by decide +kernel
theorem dX4_takesStep_9 : decode cX4_takesStep 9 = .ok (.istore_n 2, 1) := by decide +kernel
theorem dX4_takesStep_10 : decode cX4_takesStep 10 = .ok (.iload_n 1, 1) := by decide +kernel
theorem dX4_takesStep_11 : decode cX4_takesStep 11 = .ok (.bipush 97, 2) := by decide +kernel
theorem dX4_takesStep_13 : decode cX4_takesStep 13 = .ok (.if_icmp .lt 22, 3) := by decide +kernel
theorem dX4_takesStep_16 : decode cX4_takesStep 16 = .ok (.iload_n 1, 1) := by decide +kernel
theorem dX4_takesStep_17 : decode cX4_takesStep 17 = .ok (.bipush 101, 2) := by decide +kernel
theorem dX4_takesStep_19 : decode cX4_takesStep 19 = .ok (.if_icmp .ge 16, 3) := by decide +kernel
theorem dX4_takesStep_22 : decode cX4_takesStep 22 = .ok (.aload_n 0, 1) := by decide +kernel
theorem dX4_takesStep_23 : decode cX4_takesStep 23 = .ok (.getfield 12, 3) := by decide +kernel
theorem dX4_takesStep_26 : decode cX4_takesStep 26 = .ok (.iload_n 2, 1) := by decide +kernel
theorem dX4_takesStep_27 : decode cX4_takesStep 27 = .ok (.iload_n 1, 1) := by decide +kernel
theorem dX4_takesStep_28 : decode cX4_takesStep 28 = .ok (.bipush 97, 2) := by decide +kernel
theorem dX4_takesStep_30 : decode cX4_takesStep 30 = .ok (.isub, 1) := by decide +kernel
theorem dX4_takesStep_31 : decode cX4_takesStep 31 = .ok (.invokevirtual 67, 3) := by decide +kernel
theorem dX4_takesStep_34 : decode cX4_takesStep 34 = .ok (.ireturn, 1) := by decide +kernel
theorem dX4_takesStep_35 : decode cX4_takesStep 35 = .ok (.iload_n 1, 1) := by decide +kernel
theorem dX4_takesStep_36 : decode cX4_takesStep 36 = .ok (.bipush 48, 2) := by decide +kernel
theorem dX4_takesStep_38 : decode cX4_takesStep 38 = .ok (.if_icmp .lt 32, 3) := by decide +kernel
theorem dX4_takesStep_41 : decode cX4_takesStep 41 = .ok (.iload_n 1, 1) := by decide +kernel
theorem dX4_takesStep_42 : decode cX4_takesStep 42 = .ok (.bipush 48, 2) := by decide +kernel
theorem dX4_takesStep_44 : decode cX4_takesStep 44 = .ok (.iload_n 2, 1) := by decide +kernel
theorem dX4_takesStep_45 : decode cX4_takesStep 45 = .ok (.iadd, 1) := by decide +kernel
theorem dX4_takesStep_46 : decode cX4_takesStep 46 = .ok (.if_icmp .ge 24, 3) := by decide +kernel
theorem dX4_takesStep_49 : decode cX4_takesStep 49 = .ok (.aload_n 0, 1) := by decide +kernel
theorem dX4_takesStep_50 : decode cX4_takesStep 50 = .ok (.getfield 12, 3) := by decide +kernel
theorem dX4_takesStep_53 : decode cX4_takesStep 53 = .ok (.iload_n 2, 1) := by decide +kernel
theorem dX4_takesStep_54 : decode cX4_takesStep 54 = .ok (.iconst 4, 1) := by decide +kernel
theorem dX4_takesStep_55 : decode cX4_takesStep 55 = .ok (.iload_n 1, 1) := by decide +kernel
theorem dX4_takesStep_56 : decode cX4_takesStep 56 = .ok (.iadd, 1) := by decide +kernel
theorem dX4_takesStep_57 : decode cX4_takesStep 57 = .ok (.bipush 48, 2) := by decide +kernel
theorem dX4_takesStep_59 : decode cX4_takesStep 59 = .ok (.isub, 1) := by decide +kernel
theorem dX4_takesStep_60 : decode cX4_takesStep 60 = .ok (.invokevirtual 67, 3) := by decide +kernel
theorem dX4_takesStep_63 : decode cX4_takesStep 63 = .ok (.ifCond .eq 7, 3) := by decide +kernel
theorem dX4_takesStep_66 : decode cX4_takesStep 66 = .ok (.iconst 1, 1) := by decide +kernel
theorem dX4_takesStep_67 : decode cX4_takesStep 67 = .ok (.goto 4, 3) := by decide +kernel
theorem dX4_takesStep_70 : decode cX4_takesStep 70 = .ok (.iconst 0, 1) := by decide +kernel
theorem dX4_takesStep_71 : decode cX4_takesStep 71 = .ok (.ireturn, 1) := by decide +kernel
set_option maxRecDepth 20000 in
theorem ggX5_init_X1_init : GoodIn wsX5_init wsX1_init := goodIn_r _ [18, 19, 2, 3, 8, 20, 21, 22, 23, 24, 25, 26, 27, 28, 29, 30, 31] (by decide +kernel) (by decide +kernel)
set_option maxRecDepth 20000 in
theorem gX5_init_X1_init_n11 : GoodIn wsX5_init (wsX1_init) := ggX5_init_X1_init
theorem dX5_init_0 : decode cX5_init 0 = .ok (.aload_n 0, 1) := by decide +kernel
theorem dX5_init_1 : decode cX5_init 1 = .ok (.invokespecial 3, 3) := by decide +kernel
theorem dX5_init_4 : decode cX5_init 4 = .ok (.aload_n 0, 1) := by decide +kernel
theorem dX5_init_5 : decode cX5_init 5 = .ok (.new 9, 3) := by decide +kernel
theorem dX5_init_8 : decode cX5_init 8 = .ok (.dup, 1) := by decide +kernel
theorem dX5_init_9 : decode cX5_init 9 = .ok (.invokespecial 11, 3) := by decide +kernel
theorem dX5_init_12 : decode cX5_init 12 = .ok (.putfield 12, 3) := by decide +kernel
theorem dX5_init_15 : decode cX5_init 15 = .ok (.aload_n 0, 1) := by decide +kernel
theorem dX5_init_16 : decode cX5_init 16 = .ok (.iconst 5, 1) := by decide +kernel
theorem dX5_init_17 : decode cX5_init 17 = .ok (.newarray .int, 2) := by decide +kernel
theorem dX5_init_19 : decode cX5_init 19 = .ok (.putfield 18, 3) := by decide +kernel
theorem dX5_init_22 : decode cX5_init 22 = .ok (.aload_n 0, 1) := by decide +kernel
theorem dX5_init_23 : decode cX5_init 23 = .ok (.iconst 5, 1) := by decide +kernel
theorem dX5_init_24 : decode cX5_init 24 = .ok (.newarray .int, 2) := by decide +kernel
theorem dX5_init_26 : decode cX5_init 26 = .ok (.putfield 22, 3) := by decide +kernel
theorem dX5_init_29 : decode cX5_init 29 = .ok (.aload_n 0, 1) := by decide +kernel
theorem dX5_init_30 : decode cX5_init 30 = .ok (.iconst 0, 1) := by decide +kernel
theorem dX5_init_31 : decode cX5_init 31 = .ok (.putfield 25, 3) := by decide +kernel
theorem dX5_init_34 : decode cX5_init 34 = .ok (.aload_n 0, 1) := by decide +kernel
theorem dX5_init_35 : decode cX5_init 35 = .ok (.iconst 5, 1) := by decide +kernel
theorem dX5_init_36 : decode cX5_init 36 = .ok (.newarray .int, 2) := by decide +kernel
theorem dX5_init_38 : decode cX5_init 38 = .ok (.putfield 29, 3) := by decide +kernel
theorem dX5_init_41 : decode cX5_init 41 = .ok (.aload_n 0, 1) := by decide +kernel
theorem dX5_init_42 : decode cX5_init 42 = .ok (.iconst 5, 1) := by decide +kernel
theorem dX5_init_43 : decode cX5_init 43 = .ok (.newarray .int, 2) := by decide +kernel
theorem dX5_init_45 : decode cX5_init 45 = .ok (.putfield 32, 3) := by decide +kernel
theorem dX5_init_48 : decode cX5_init 48 = .ok (.aload_n 0, 1) := by decide +kernel
theorem dX5_init_49 : decode cX5_init 49 = .ok (.iconst 5, 1) := by decide +kernel
theorem dX5_init_50 : decode cX5_init 50 = .ok (.newarray .int, 2) := by decide +kernel
theorem dX5_init_52 : decode cX5_init 52 = .ok (.putfield 35, 3) := by decide +kernel
theorem dX5_init_55 : decode cX5_init 55 = .ok (.aload_n 0, 1) := by decide +kernel
theorem dX5_init_56 : decode cX5_init 56 = .ok (.iconst 5, 1) := by decide +kernel
theorem dX5_init_57 : decode cX5_init 57 = .ok (.newarray .int, 2) := by decide +kernel
theorem dX5_init_59 : decode cX5_init 59 = .ok (.putfield 38, 3) := by decide +kernel
theorem dX5_init_62 : decode cX5_init 62 = .ok (.aload_n 0, 1) := by decide +kernel
theorem dX5_init_63 : decode cX5_init 63 = .ok (.iconst 5, 1) := by decide +kernel
theorem dX5_init_64 : decode cX5_init 64 = .ok (.newarray .int, 2) := by decide +kernel
theorem dX5_init_66 : decode cX5_init 66 = .ok (.putfield 41, 3) := by decide +kernel
theorem dX5_init_69 : decode cX5_init 69 = .ok (.return_, 1) := by decide +kernel
theorem dX5_begin_0 : decode cX5_begin 0 = .ok (.aload_n 0, 1) := by decide +kernel
theorem dX5_begin_1 : decode cX5_begin 1 = .ok (.getfield 12, 3) := by decide +kernel
theorem dX5_begin_4 : decode cX5_begin 4 = .ok (.getfield 44, 3) := by decide +kernel
theorem dX5_begin_7 : decode cX5_begin 7 = .ok (.iconst 0, 1) := by decide +kernel
theorem dX5_begin_8 : decode cX5_begin 8 = .ok (.aload_n 0, 1) := by decide +kernel
theorem dX5_begin_9 : decode cX5_begin 9 = .ok (.getfield 18, 3) := by decide +kernel
theorem dX5_begin_12 : decode cX5_begin 12 = .ok (.iconst 0, 1) := by decide +kernel
theorem dX5_begin_13 : decode cX5_begin 13 = .ok (.iconst 5, 1) := by decide +kernel
theorem dX5_begin_14 : decode cX5_begin 14 = .ok (.invokestatic 45, 3) := by decide +kernel
theorem dX5_begin_17 : decode cX5_begin 17 = .ok (.aload_n 0, 1) := by decide +kernel
theorem dX5_begin_18 : decode cX5_begin 18 = .ok (.getfield 12, 3) := by decide +kernel
theorem dX5_begin_21 : decode cX5_begin 21 = .ok (.getfield 51, 3) := by decide +kernel
theorem dX5_begin_24 : decode cX5_begin 24 = .ok (.iconst 0, 1) := by decide +kernel
theorem dX5_begin_25 : decode cX5_begin 25 = .ok (.aload_n 0, 1) := by decide +kernel
theorem dX5_begin_26 : decode cX5_begin 26 = .ok (.getfield 22, 3) := by decide +kernel
theorem dX5_begin_29 : decode cX5_begin 29 = .ok (.iconst 0, 1) := by decide +kernel
theorem dX5_begin_30 : decode cX5_begin 30 = .ok (.iconst 5, 1) := by decide +kernel
theorem dX5_begin_31 : decode cX5_begin 31 = .ok (.invokestatic 45, 3) := by decide +kernel
theorem dX5_begin_34 : decode cX5_begin 34 = .ok (.aload_n 0, 1) := by decide +kernel
theorem dX5_begin_35 : decode cX5_begin 35 = .ok (.aload_n 0, 1) := by decide +kernel
theorem dX5_begin_36 : decode cX5_begin 36 = .ok (.getfield 12, 3) := by decide +kernel
theorem dX5_begin_39 : decode cX5_begin 39 = .ok (.getfield 52, 3) := by decide +kernel
theorem dX5_begin_42 : decode cX5_begin 42 = .ok (.putfield 25, 3) := by decide +kernel
theorem dX5_begin_45 : decode cX5_begin 45 = .ok (.return_, 1) := by decide +kernel
set_option maxRecDepth 20000 in
theorem ggX5_settleBy_X5_settleAll : GoodIn wsX5_settleBy wsX5_settleAll := goodIn_r _ [6, 7, 8, 9, 10, 5, 11, 12, 13, 14, 15, 16, 17, 18, 19, 20, 21, 22, 23, 24, 25, 26, 27, 28, 29, 30, 31, 32, 33, 34, 35, 36, 37, 38, 39, 40, 41, 1, 42, 43, 44, 45, 46, 47, 48, 49, 50, 51, 52, 53, 54, 55, 56, 57, 58, 59, 60, 61, 62, 63, 64, 65, 66, 67, 68, 69] (by decide +kernel) (by decide +kernel)
