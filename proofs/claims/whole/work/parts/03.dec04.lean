theorem dX7_rows_56 : decode cX7_rows 56 = .ok (.iconst 4, 1) := by decide +kernel
theorem dX7_rows_57 : decode cX7_rows 57 = .ok (.isub, 1) := by decide +kernel
theorem dX7_rows_58 : decode cX7_rows 58 = .ok (.iaload, 1) := by decide +kernel
theorem dX7_rows_59 : decode cX7_rows 59 = .ok (.ior, 1) := by decide +kernel
theorem dX7_rows_60 : decode cX7_rows 60 = .ok (.istore_n 2, 1) := by decide +kernel
theorem dX7_rows_61 : decode cX7_rows 61 = .ok (.iinc 3 1, 3) := by decide +kernel
theorem dX7_rows_64 : decode cX7_rows 64 = .ok (.goto (-50), 3) := by decide +kernel
theorem dX7_rows_67 : decode cX7_rows 67 = .ok (.aload_n 0, 1) := by decide +kernel
theorem dX7_rows_68 : decode cX7_rows 68 = .ok (.getfield 46, 3) := by decide +kernel
theorem dX7_rows_71 : decode cX7_rows 71 = .ok (.iload_n 1, 1) := by decide +kernel
theorem dX7_rows_72 : decode cX7_rows 72 = .ok (.aload_n 0, 1) := by decide +kernel
theorem dX7_rows_73 : decode cX7_rows 73 = .ok (.getfield 7, 3) := by decide +kernel
theorem dX7_rows_76 : decode cX7_rows 76 = .ok (.iload_n 1, 1) := by decide +kernel
theorem dX7_rows_77 : decode cX7_rows 77 = .ok (.iaload, 1) := by decide +kernel
theorem dX7_rows_78 : decode cX7_rows 78 = .ok (.ifCond .le 30, 3) := by decide +kernel
theorem dX7_rows_81 : decode cX7_rows 81 = .ok (.iload_n 2, 1) := by decide +kernel
theorem dX7_rows_82 : decode cX7_rows 82 = .ok (.aload_n 0, 1) := by decide +kernel
theorem dX7_rows_83 : decode cX7_rows 83 = .ok (.getfield 13, 3) := by decide +kernel
theorem dX7_rows_86 : decode cX7_rows 86 = .ok (.iload_n 1, 1) := by decide +kernel
theorem dX7_rows_87 : decode cX7_rows 87 = .ok (.iaload, 1) := by decide +kernel
theorem dX7_rows_88 : decode cX7_rows 88 = .ok (.ishr, 1) := by decide +kernel
theorem dX7_rows_89 : decode cX7_rows 89 = .ok (.iconst 1, 1) := by decide +kernel
theorem dX7_rows_90 : decode cX7_rows 90 = .ok (.iand, 1) := by decide +kernel
theorem dX7_rows_91 : decode cX7_rows 91 = .ok (.iconst 1, 1) := by decide +kernel
theorem dX7_rows_92 : decode cX7_rows 92 = .ok (.if_icmp .ne 16, 3) := by decide +kernel
theorem dX7_rows_95 : decode cX7_rows 95 = .ok (.iload_n 2, 1) := by decide +kernel
theorem dX7_rows_96 : decode cX7_rows 96 = .ok (.iconst 1, 1) := by decide +kernel
theorem dX7_rows_97 : decode cX7_rows 97 = .ok (.aload_n 0, 1) := by decide +kernel
theorem dX7_rows_98 : decode cX7_rows 98 = .ok (.getfield 13, 3) := by decide +kernel
theorem dX7_rows_101 : decode cX7_rows 101 = .ok (.iload_n 1, 1) := by decide +kernel
theorem dX7_rows_102 : decode cX7_rows 102 = .ok (.iaload, 1) := by decide +kernel
theorem dX7_rows_103 : decode cX7_rows 103 = .ok (.ishl, 1) := by decide +kernel
theorem dX7_rows_104 : decode cX7_rows 104 = .ok (.isub, 1) := by decide +kernel
theorem dX7_rows_105 : decode cX7_rows 105 = .ok (.goto 4, 3) := by decide +kernel
theorem dX7_rows_108 : decode cX7_rows 108 = .ok (.iload_n 2, 1) := by decide +kernel
theorem dX7_rows_109 : decode cX7_rows 109 = .ok (.iastore, 1) := by decide +kernel
theorem dX7_rows_110 : decode cX7_rows 110 = .ok (.iinc 1 1, 3) := by decide +kernel
theorem dX7_rows_113 : decode cX7_rows 113 = .ok (.goto (-111), 3) := by decide +kernel
theorem dX7_rows_116 : decode cX7_rows 116 = .ok (.return_, 1) := by decide +kernel
set_option maxRecDepth 20000 in
theorem ggX7_mayOf_X7_runsBy : GoodIn wsX7_mayOf wsX7_runsBy := goodIn_r _ [5, 6, 7, 8, 9, 4, 10, 11, 12, 13, 14, 15, 16, 17, 18, 19, 20, 21, 22, 23, 24, 25, 26, 27, 28, 29, 30, 31, 32, 33, 34, 35, 36, 37, 38, 39, 40, 41, 42, 43, 44, 45, 46, 47, 48, 49, 50, 51, 52, 53, 54, 55, 56, 57, 58, 59, 60, 61, 62, 63, 64, 65, 66, 67, 68, 69, 70, 71, 72, 73, 74, 75, 76] (by decide +kernel) (by decide +kernel)
set_option maxRecDepth 20000 in
theorem gX7_mayOf_X7_runsBy : GoodIn wsX7_mayOf (wsV RX7 180 RX7 yX7_runsBy wsX7_runsBy) := goodIn_app (goodIn_of _ (by decide +kernel)) ggX7_mayOf_X7_runsBy
theorem dX7_mayOf_0 : decode cX7_mayOf 0 = .ok (.iconst 0, 1) := by decide +kernel
theorem dX7_mayOf_1 : decode cX7_mayOf 1 = .ok (.istore_n 2, 1) := by decide +kernel
theorem dX7_mayOf_2 : decode cX7_mayOf 2 = .ok (.iconst 0, 1) := by decide +kernel
theorem dX7_mayOf_3 : decode cX7_mayOf 3 = .ok (.istore_n 3, 1) := by decide +kernel
theorem dX7_mayOf_4 : decode cX7_mayOf 4 = .ok (.iload_n 3, 1) := by decide +kernel
theorem dX7_mayOf_5 : decode cX7_mayOf 5 = .ok (.bipush 16, 2) := by decide +kernel
theorem dX7_mayOf_7 : decode cX7_mayOf 7 = .ok (.if_icmp .ge 33, 3) := by decide +kernel
theorem dX7_mayOf_10 : decode cX7_mayOf 10 = .ok (.aload_n 0, 1) := by decide +kernel
theorem dX7_mayOf_11 : decode cX7_mayOf 11 = .ok (.iload_n 1, 1) := by decide +kernel
theorem dX7_mayOf_12 : decode cX7_mayOf 12 = .ok (.iload_n 3, 1) := by decide +kernel
theorem dX7_mayOf_13 : decode cX7_mayOf 13 = .ok (.invokevirtual 180, 3) := by decide +kernel
theorem dX7_mayOf_16 : decode cX7_mayOf 16 = .ok (.istore 4, 2) := by decide +kernel
theorem dX7_mayOf_18 : decode cX7_mayOf 18 = .ok (.iload_n 2, 1) := by decide +kernel
theorem dX7_mayOf_19 : decode cX7_mayOf 19 = .ok (.iload 4, 2) := by decide +kernel
theorem dX7_mayOf_21 : decode cX7_mayOf 21 = .ok (.ifCond .ge 7, 3) := by decide +kernel
theorem dX7_mayOf_24 : decode cX7_mayOf 24 = .ok (.iconst 0, 1) := by decide +kernel
theorem dX7_mayOf_25 : decode cX7_mayOf 25 = .ok (.goto 7, 3) := by decide +kernel
theorem dX7_mayOf_28 : decode cX7_mayOf 28 = .ok (.iconst 1, 1) := by decide +kernel
theorem dX7_mayOf_29 : decode cX7_mayOf 29 = .ok (.iload 4, 2) := by decide +kernel
theorem dX7_mayOf_31 : decode cX7_mayOf 31 = .ok (.ishl, 1) := by decide +kernel
theorem dX7_mayOf_32 : decode cX7_mayOf 32 = .ok (.ior, 1) := by decide +kernel
theorem dX7_mayOf_33 : decode cX7_mayOf 33 = .ok (.istore_n 2, 1) := by decide +kernel
theorem dX7_mayOf_34 : decode cX7_mayOf 34 = .ok (.iinc 3 1, 3) := by decide +kernel
theorem dX7_mayOf_37 : decode cX7_mayOf 37 = .ok (.goto (-33), 3) := by decide +kernel
theorem dX7_mayOf_40 : decode cX7_mayOf 40 = .ok (.iload_n 2, 1) := by decide +kernel
theorem dX7_mayOf_41 : decode cX7_mayOf 41 = .ok (.ireturn, 1) := by decide +kernel
set_option maxRecDepth 20000 in
theorem ggX7_ofFunction_X7_noFunction : GoodIn wsX7_ofFunction wsX7_noFunction := goodIn_r _ [9, 10, 11, 12, 8, 13, 60, 61, 62, 63, 64, 65, 66, 67, 68, 69, 70, 71, 72, 73, 74, 75, 76, 77, 78, 79, 80, 81, 82, 83, 84, 85, 86, 87, 88, 89, 90, 91, 92, 93] (by decide +kernel) (by decide +kernel)
set_option maxRecDepth 20000 in
theorem gX7_ofFunction_X7_noFunction : GoodIn wsX7_ofFunction (wsV RX7 183 RX7 yX7_noFunction wsX7_noFunction) := goodIn_app (goodIn_of _ (by decide +kernel)) ggX7_ofFunction_X7_noFunction
set_option maxRecDepth 20000 in
theorem ggX7_ofFunction_X7_rows : GoodIn wsX7_ofFunction wsX7_rows := goodIn_r _ [17, 10, 3, 18, 4, 1, 2, 60, 61, 62, 63, 64, 65, 66, 67, 68, 69, 70, 71, 72, 73, 74, 75, 76, 77, 78, 79, 80, 81, 82, 83, 84, 85, 86, 87, 88, 89, 90, 91, 92, 93] (by decide +kernel) (by decide +kernel)
set_option maxRecDepth 20000 in
theorem gX7_ofFunction_X7_rows : GoodIn wsX7_ofFunction (wsV RX7 186 RX7 yX7_rows wsX7_rows) := goodIn_app (goodIn_of _ (by decide +kernel)) ggX7_ofFunction_X7_rows
set_option maxRecDepth 20000 in
theorem ggX7_ofFunction_X7_mayOf : GoodIn wsX7_ofFunction wsX7_mayOf := goodIn_r _ [22, 23, 24, 25, 8, 26, 27, 28, 29, 30, 31, 32, 33, 34, 35, 36, 37, 38, 39, 40, 41, 42, 43, 44, 45, 3, 18, 46, 47, 48, 49, 50, 51, 52, 53, 54, 55, 56, 57, 58, 59, 1, 2, 60, 61, 62, 63, 64, 65, 66, 67, 68, 69, 70, 71, 72, 73, 74, 75, 76, 77, 78, 79, 80, 81, 82, 83, 84, 85, 86, 87, 88, 89, 90, 91, 92, 93] (by decide +kernel) (by decide +kernel)
set_option maxRecDepth 20000 in
theorem gX7_ofFunction_X7_mayOf : GoodIn wsX7_ofFunction (wsV RX7 189 RX7 yX7_mayOf wsX7_mayOf) := goodIn_app (goodIn_of _ (by decide +kernel)) ggX7_ofFunction_X7_mayOf
theorem dX7_ofFunction_0 : decode cX7_ofFunction 0 = .ok (.aload_n 0, 1) := by decide +kernel
theorem dX7_ofFunction_1 : decode cX7_ofFunction 1 = .ok (.iload_n 1, 1) := by decide +kernel
theorem dX7_ofFunction_2 : decode cX7_ofFunction 2 = .ok (.invokevirtual 183, 3) := by decide +kernel
theorem dX7_ofFunction_5 : decode cX7_ofFunction 5 = .ok (.ifCond .eq 5, 3) := by decide +kernel
theorem dX7_ofFunction_8 : decode cX7_ofFunction 8 = .ok (.iconst (-1), 1) := by decide +kernel
theorem dX7_ofFunction_9 : decode cX7_ofFunction 9 = .ok (.ireturn, 1) := by decide +kernel
theorem dX7_ofFunction_10 : decode cX7_ofFunction 10 = .ok (.aload_n 0, 1) := by decide +kernel
theorem dX7_ofFunction_11 : decode cX7_ofFunction 11 = .ok (.invokevirtual 186, 3) := by decide +kernel
theorem dX7_ofFunction_14 : decode cX7_ofFunction 14 = .ok (.iload_n 2, 1) := by decide +kernel
theorem dX7_ofFunction_15 : decode cX7_ofFunction 15 = .ok (.tableswitch 67 0 4 #[33, 40, 47, 54, 61], 33) := by decide +kernel
theorem dX7_ofFunction_48 : decode cX7_ofFunction 48 = .ok (.aload_n 0, 1) := by decide +kernel
theorem dX7_ofFunction_49 : decode cX7_ofFunction 49 = .ok (.getfield 7, 3) := by decide +kernel
theorem dX7_ofFunction_52 : decode cX7_ofFunction 52 = .ok (.iload_n 1, 1) := by decide +kernel
theorem dX7_ofFunction_53 : decode cX7_ofFunction 53 = .ok (.iaload, 1) := by decide +kernel
theorem dX7_ofFunction_54 : decode cX7_ofFunction 54 = .ok (.ireturn, 1) := by decide +kernel
theorem dX7_ofFunction_55 : decode cX7_ofFunction 55 = .ok (.aload_n 0, 1) := by decide +kernel
theorem dX7_ofFunction_56 : decode cX7_ofFunction 56 = .ok (.getfield 13, 3) := by decide +kernel
theorem dX7_ofFunction_59 : decode cX7_ofFunction 59 = .ok (.iload_n 1, 1) := by decide +kernel
theorem dX7_ofFunction_60 : decode cX7_ofFunction 60 = .ok (.iaload, 1) := by decide +kernel
theorem dX7_ofFunction_61 : decode cX7_ofFunction 61 = .ok (.ireturn, 1) := by decide +kernel
theorem dX7_ofFunction_62 : decode cX7_ofFunction 62 = .ok (.aload_n 0, 1) := by decide +kernel
theorem dX7_ofFunction_63 : decode cX7_ofFunction 63 = .ok (.getfield 16, 3) := by decide +kernel
theorem dX7_ofFunction_66 : decode cX7_ofFunction 66 = .ok (.iload_n 1, 1) := by decide +kernel
theorem dX7_ofFunction_67 : decode cX7_ofFunction 67 = .ok (.iaload, 1) := by decide +kernel
theorem dX7_ofFunction_68 : decode cX7_ofFunction 68 = .ok (.ireturn, 1) := by decide +kernel
theorem dX7_ofFunction_69 : decode cX7_ofFunction 69 = .ok (.aload_n 0, 1) := by decide +kernel
theorem dX7_ofFunction_70 : decode cX7_ofFunction 70 = .ok (.getfield 46, 3) := by decide +kernel
theorem dX7_ofFunction_73 : decode cX7_ofFunction 73 = .ok (.iload_n 1, 1) := by decide +kernel
theorem dX7_ofFunction_74 : decode cX7_ofFunction 74 = .ok (.iaload, 1) := by decide +kernel
theorem dX7_ofFunction_75 : decode cX7_ofFunction 75 = .ok (.ireturn, 1) := by decide +kernel
theorem dX7_ofFunction_76 : decode cX7_ofFunction 76 = .ok (.aload_n 0, 1) := by decide +kernel
theorem dX7_ofFunction_77 : decode cX7_ofFunction 77 = .ok (.iload_n 1, 1) := by decide +kernel
theorem dX7_ofFunction_78 : decode cX7_ofFunction 78 = .ok (.invokevirtual 189, 3) := by decide +kernel
theorem dX7_ofFunction_81 : decode cX7_ofFunction 81 = .ok (.ireturn, 1) := by decide +kernel
theorem dX7_ofFunction_82 : decode cX7_ofFunction 82 = .ok (.bipush (-2), 2) := by decide +kernel
theorem dX7_ofFunction_84 : decode cX7_ofFunction 84 = .ok (.ireturn, 1) := by decide +kernel
set_option maxRecDepth 20000 in
theorem ggX7_noStep_X7_noFunction : GoodIn wsX7_noStep wsX7_noFunction := goodIn_r _ [6, 7, 8, 9, 5, 10, 11, 12, 13, 14, 15, 16, 17, 18, 19, 20, 21, 22, 23, 24, 25, 26, 27, 28, 29, 30, 31, 32, 33, 34, 35, 36, 37, 38, 39, 40, 41, 42, 43, 44] (by decide +kernel) (by decide +kernel)
set_option maxRecDepth 20000 in
theorem gX7_noStep_X7_noFunction : GoodIn wsX7_noStep (wsV RX7 183 RX7 yX7_noFunction wsX7_noFunction) := goodIn_app (goodIn_of _ (by decide +kernel)) ggX7_noStep_X7_noFunction
set_option maxRecDepth 20000 in
theorem ggX7_noStep_X7_in : GoodIn wsX7_noStep wsX7_in := goodIn_r _ [10] (by decide +kernel) (by decide +kernel)
set_option maxRecDepth 20000 in
theorem gX7_noStep_X7_in : GoodIn wsX7_noStep (va_wsS RX7 86 yX7_in wsX7_in) := goodIn_app (goodIn_of _ (by decide +kernel)) ggX7_noStep_X7_in
theorem dX7_noStep_0 : decode cX7_noStep 0 = .ok (.aload_n 0, 1) := by decide +kernel
theorem dX7_noStep_1 : decode cX7_noStep 1 = .ok (.iload_n 1, 1) := by decide +kernel
theorem dX7_noStep_2 : decode cX7_noStep 2 = .ok (.invokevirtual 183, 3) := by decide +kernel
theorem dX7_noStep_5 : decode cX7_noStep 5 = .ok (.ifCond .ne 21, 3) := by decide +kernel
theorem dX7_noStep_8 : decode cX7_noStep 8 = .ok (.iload_n 2, 1) := by decide +kernel
theorem dX7_noStep_9 : decode cX7_noStep 9 = .ok (.i2l, 1) := by decide +kernel
theorem dX7_noStep_10 : decode cX7_noStep 10 = .ok (.lconst 0, 1) := by decide +kernel
theorem dX7_noStep_11 : decode cX7_noStep 11 = .ok (.aload_n 0, 1) := by decide +kernel
theorem dX7_noStep_12 : decode cX7_noStep 12 = .ok (.getfield 16, 3) := by decide +kernel
theorem dX7_noStep_15 : decode cX7_noStep 15 = .ok (.iload_n 1, 1) := by decide +kernel
theorem dX7_noStep_16 : decode cX7_noStep 16 = .ok (.iaload, 1) := by decide +kernel
theorem dX7_noStep_17 : decode cX7_noStep 17 = .ok (.i2l, 1) := by decide +kernel
theorem dX7_noStep_18 : decode cX7_noStep 18 = .ok (.lconst 1, 1) := by decide +kernel
theorem dX7_noStep_19 : decode cX7_noStep 19 = .ok (.lsub, 1) := by decide +kernel
theorem dX7_noStep_20 : decode cX7_noStep 20 = .ok (.invokestatic 86, 3) := by decide +kernel
theorem dX7_noStep_23 : decode cX7_noStep 23 = .ok (.ifCond .ne 7, 3) := by decide +kernel
theorem dX7_noStep_26 : decode cX7_noStep 26 = .ok (.iconst 1, 1) := by decide +kernel
theorem dX7_noStep_27 : decode cX7_noStep 27 = .ok (.goto 4, 3) := by decide +kernel
theorem dX7_noStep_30 : decode cX7_noStep 30 = .ok (.iconst 0, 1) := by decide +kernel
theorem dX7_noStep_31 : decode cX7_noStep 31 = .ok (.ireturn, 1) := by decide +kernel
set_option maxRecDepth 20000 in
theorem ggX7_step_X7_noStep : GoodIn wsX7_step wsX7_noStep := goodIn_r _ [6, 7, 8, 9, 10, 5, 11, 12, 13, 14, 15, 16, 17, 18, 19, 20, 21, 22, 23, 24, 25, 26, 27, 28, 29, 30, 31, 32, 33, 34, 35, 36, 37, 38, 39, 40, 41, 42, 43, 44, 45, 46, 47, 48, 49] (by decide +kernel) (by decide +kernel)
set_option maxRecDepth 20000 in
theorem gX7_step_X7_noStep : GoodIn wsX7_step (wsV RX7 192 RX7 yX7_noStep wsX7_noStep) := goodIn_app (goodIn_of _ (by decide +kernel)) ggX7_step_X7_noStep
theorem dX7_step_0 : decode cX7_step 0 = .ok (.aload_n 0, 1) := by decide +kernel
theorem dX7_step_1 : decode cX7_step 1 = .ok (.iload_n 1, 1) := by decide +kernel
theorem dX7_step_2 : decode cX7_step 2 = .ok (.iload_n 2, 1) := by decide +kernel
theorem dX7_step_3 : decode cX7_step 3 = .ok (.invokevirtual 192, 3) := by decide +kernel
theorem dX7_step_6 : decode cX7_step 6 = .ok (.ifCond .eq 7, 3) := by decide +kernel
theorem dX7_step_9 : decode cX7_step 9 = .ok (.iconst (-1), 1) := by decide +kernel
theorem dX7_step_10 : decode cX7_step 10 = .ok (.goto 13, 3) := by decide +kernel
theorem dX7_step_13 : decode cX7_step 13 = .ok (.aload_n 0, 1) := by decide +kernel
theorem dX7_step_14 : decode cX7_step 14 = .ok (.getfield 19, 3) := by decide +kernel
theorem dX7_step_17 : decode cX7_step 17 = .ok (.iconst 4, 1) := by decide +kernel
theorem dX7_step_18 : decode cX7_step 18 = .ok (.iload_n 1, 1) := by decide +kernel
theorem dX7_step_19 : decode cX7_step 19 = .ok (.imul, 1) := by decide +kernel
theorem dX7_step_20 : decode cX7_step 20 = .ok (.iload_n 2, 1) := by decide +kernel
theorem dX7_step_21 : decode cX7_step 21 = .ok (.iadd, 1) := by decide +kernel
theorem dX7_step_22 : decode cX7_step 22 = .ok (.iaload, 1) := by decide +kernel
theorem dX7_step_23 : decode cX7_step 23 = .ok (.ireturn, 1) := by decide +kernel
set_option maxRecDepth 20000 in
theorem ggX7_patch_X7_noStep : GoodIn wsX7_patch wsX7_noStep := goodIn_r _ [6, 7, 8, 9, 10, 5, 11, 12, 13, 14, 15, 16, 17, 18, 19, 20, 21, 22, 23, 24, 25, 26, 27, 28, 29, 30, 31, 32, 33, 34, 35, 36, 37, 38, 39, 40, 41, 42, 43, 44, 45, 46, 47, 48, 49] (by decide +kernel) (by decide +kernel)
set_option maxRecDepth 20000 in
theorem gX7_patch_X7_noStep : GoodIn wsX7_patch (wsV RX7 192 RX7 yX7_noStep wsX7_noStep) := goodIn_app (goodIn_of _ (by decide +kernel)) ggX7_patch_X7_noStep
set_option maxRecDepth 20000 in
theorem ggX7_patch_X7_in : GoodIn wsX7_patch wsX7_in := goodIn_r _ [15] (by decide +kernel) (by decide +kernel)
set_option maxRecDepth 20000 in
theorem gX7_patch_X7_in : GoodIn wsX7_patch (va_wsS RX7 86 yX7_in wsX7_in) := goodIn_app (goodIn_of _ (by decide +kernel)) ggX7_patch_X7_in
theorem dX7_patch_0 : decode cX7_patch 0 = .ok (.aload_n 0, 1) := by decide +kernel
theorem dX7_patch_1 : decode cX7_patch 1 = .ok (.iload_n 1, 1) := by decide +kernel
theorem dX7_patch_2 : decode cX7_patch 2 = .ok (.iload_n 2, 1) := by decide +kernel
theorem dX7_patch_3 : decode cX7_patch 3 = .ok (.invokevirtual 192, 3) := by decide +kernel
theorem dX7_patch_6 : decode cX7_patch 6 = .ok (.ifCond .eq 5, 3) := by decide +kernel
theorem dX7_patch_9 : decode cX7_patch 9 = .ok (.iconst (-1), 1) := by decide +kernel
theorem dX7_patch_10 : decode cX7_patch 10 = .ok (.ireturn, 1) := by decide +kernel
theorem dX7_patch_11 : decode cX7_patch 11 = .ok (.iload_n 3, 1) := by decide +kernel
theorem dX7_patch_12 : decode cX7_patch 12 = .ok (.i2l, 1) := by decide +kernel
theorem dX7_patch_13 : decode cX7_patch 13 = .ok (.lconst 0, 1) := by decide +kernel
theorem dX7_patch_14 : decode cX7_patch 14 = .ok (.iconst 4, 1) := by decide +kernel
theorem dX7_patch_15 : decode cX7_patch 15 = .ok (.iload_n 1, 1) := by decide +kernel
theorem dX7_patch_16 : decode cX7_patch 16 = .ok (.iadd, 1) := by decide +kernel
theorem dX7_patch_17 : decode cX7_patch 17 = .ok (.i2l, 1) := by decide +kernel
theorem dX7_patch_18 : decode cX7_patch 18 = .ok (.lconst 1, 1) := by decide +kernel
theorem dX7_patch_19 : decode cX7_patch 19 = .ok (.lsub, 1) := by decide +kernel
theorem dX7_patch_20 : decode cX7_patch 20 = .ok (.invokestatic 86, 3) := by decide +kernel
theorem dX7_patch_23 : decode cX7_patch 23 = .ok (.ifCond .ne 6, 3) := by decide +kernel
theorem dX7_patch_26 : decode cX7_patch 26 = .ok (.bipush (-2), 2) := by decide +kernel
theorem dX7_patch_28 : decode cX7_patch 28 = .ok (.ireturn, 1) := by decide +kernel
theorem dX7_patch_29 : decode cX7_patch 29 = .ok (.aload_n 0, 1) := by decide +kernel
theorem dX7_patch_30 : decode cX7_patch 30 = .ok (.getfield 19, 3) := by decide +kernel
theorem dX7_patch_33 : decode cX7_patch 33 = .ok (.iconst 4, 1) := by decide +kernel
theorem dX7_patch_34 : decode cX7_patch 34 = .ok (.iload_n 1, 1) := by decide +kernel
theorem dX7_patch_35 : decode cX7_patch 35 = .ok (.imul, 1) := by decide +kernel
theorem dX7_patch_36 : decode cX7_patch 36 = .ok (.iload_n 2, 1) := by decide +kernel
theorem dX7_patch_37 : decode cX7_patch 37 = .ok (.iadd, 1) := by decide +kernel
theorem dX7_patch_38 : decode cX7_patch 38 = .ok (.iaload, 1) := by decide +kernel
theorem dX7_patch_39 : decode cX7_patch 39 = .ok (.istore 4, 2) := by decide +kernel
theorem dX7_patch_41 : decode cX7_patch 41 = .ok (.aload_n 0, 1) := by decide +kernel
theorem dX7_patch_42 : decode cX7_patch 42 = .ok (.getfield 19, 3) := by decide +kernel
theorem dX7_patch_45 : decode cX7_patch 45 = .ok (.iconst 4, 1) := by decide +kernel
theorem dX7_patch_46 : decode cX7_patch 46 = .ok (.iload_n 1, 1) := by decide +kernel
theorem dX7_patch_47 : decode cX7_patch 47 = .ok (.imul, 1) := by decide +kernel
theorem dX7_patch_48 : decode cX7_patch 48 = .ok (.iload_n 2, 1) := by decide +kernel
theorem dX7_patch_49 : decode cX7_patch 49 = .ok (.iadd, 1) := by decide +kernel
theorem dX7_patch_50 : decode cX7_patch 50 = .ok (.iload_n 3, 1) := by decide +kernel
theorem dX7_patch_51 : decode cX7_patch 51 = .ok (.iastore, 1) := by decide +kernel
theorem dX7_patch_52 : decode cX7_patch 52 = .ok (.iload 4, 2) := by decide +kernel
theorem dX7_patch_54 : decode cX7_patch 54 = .ok (.ireturn, 1) := by decide +kernel
set_option maxRecDepth 20000 in
theorem ggX7_isAct_X7_in : GoodIn wsX7_isAct wsX7_in := goodIn_r _ [5] (by decide +kernel) (by decide +kernel)
set_option maxRecDepth 20000 in
theorem gX7_isAct_X7_in : GoodIn wsX7_isAct (va_wsS RX7 86 yX7_in wsX7_in) := goodIn_app (goodIn_of _ (by decide +kernel)) ggX7_isAct_X7_in
theorem dX7_isAct_0 : decode cX7_isAct 0 = .ok (.iload_n 0, 1) := by decide +kernel
theorem dX7_isAct_1 : decode cX7_isAct 1 = .ok (.i2l, 1) := by decide +kernel
theorem dX7_isAct_2 : decode cX7_isAct 2 = .ok (.lconst 0, 1) := by decide +kernel
theorem dX7_isAct_3 : decode cX7_isAct 3 = .ok (.ldc2_w 108, 3) := by decide +kernel
theorem dX7_isAct_6 : decode cX7_isAct 6 = .ok (.invokestatic 86, 3) := by decide +kernel
theorem dX7_isAct_9 : decode cX7_isAct 9 = .ok (.ireturn, 1) := by decide +kernel
set_option maxRecDepth 20000 in
theorem ggX7_guard_X7_noFunction : GoodIn wsX7_guard wsX7_noFunction := goodIn_r _ [6, 7, 8, 9, 5, 10, 15, 16, 17, 18, 19, 20, 21, 22, 23, 24, 25, 26, 27, 28, 29, 30, 31, 32, 33, 34, 35, 36, 37, 38, 39, 40, 41, 42, 43, 44, 45, 46, 47, 48] (by decide +kernel) (by decide +kernel)
set_option maxRecDepth 20000 in
theorem gX7_guard_X7_noFunction : GoodIn wsX7_guard (wsV RX7 183 RX7 yX7_noFunction wsX7_noFunction) := goodIn_app (goodIn_of _ (by decide +kernel)) ggX7_guard_X7_noFunction
set_option maxRecDepth 20000 in
theorem ggX7_guard_X7_isAct : GoodIn wsX7_guard wsX7_isAct := goodIn_r _ [13, 14, 8, 9, 5, 10] (by decide +kernel) (by decide +kernel)
set_option maxRecDepth 20000 in
theorem gX7_guard_X7_isAct : GoodIn wsX7_guard (va_wsS RX7 195 yX7_isAct wsX7_isAct) := goodIn_app (goodIn_of _ (by decide +kernel)) ggX7_guard_X7_isAct
theorem dX7_guard_0 : decode cX7_guard 0 = .ok (.aload_n 0, 1) := by decide +kernel
theorem dX7_guard_1 : decode cX7_guard 1 = .ok (.iload_n 1, 1) := by decide +kernel
theorem dX7_guard_2 : decode cX7_guard 2 = .ok (.invokevirtual 183, 3) := by decide +kernel
theorem dX7_guard_5 : decode cX7_guard 5 = .ok (.ifCond .eq 5, 3) := by decide +kernel
theorem dX7_guard_8 : decode cX7_guard 8 = .ok (.iconst (-1), 1) := by decide +kernel
theorem dX7_guard_9 : decode cX7_guard 9 = .ok (.ireturn, 1) := by decide +kernel
theorem dX7_guard_10 : decode cX7_guard 10 = .ok (.iload_n 2, 1) := by decide +kernel
theorem dX7_guard_11 : decode cX7_guard 11 = .ok (.invokestatic 195, 3) := by decide +kernel
theorem dX7_guard_14 : decode cX7_guard 14 = .ok (.ifCond .ne 6, 3) := by decide +kernel
theorem dX7_guard_17 : decode cX7_guard 17 = .ok (.bipush (-2), 2) := by decide +kernel
theorem dX7_guard_19 : decode cX7_guard 19 = .ok (.ireturn, 1) := by decide +kernel
theorem dX7_guard_20 : decode cX7_guard 20 = .ok (.aload_n 0, 1) := by decide +kernel
theorem dX7_guard_21 : decode cX7_guard 21 = .ok (.getfield 13, 3) := by decide +kernel
theorem dX7_guard_24 : decode cX7_guard 24 = .ok (.iload_n 1, 1) := by decide +kernel
theorem dX7_guard_25 : decode cX7_guard 25 = .ok (.iaload, 1) := by decide +kernel
theorem dX7_guard_26 : decode cX7_guard 26 = .ok (.istore_n 3, 1) := by decide +kernel
theorem dX7_guard_27 : decode cX7_guard 27 = .ok (.aload_n 0, 1) := by decide +kernel
theorem dX7_guard_28 : decode cX7_guard 28 = .ok (.getfield 13, 3) := by decide +kernel
theorem dX7_guard_31 : decode cX7_guard 31 = .ok (.iload_n 1, 1) := by decide +kernel
theorem dX7_guard_32 : decode cX7_guard 32 = .ok (.iload_n 2, 1) := by decide +kernel
theorem dX7_guard_33 : decode cX7_guard 33 = .ok (.iastore, 1) := by decide +kernel
theorem dX7_guard_34 : decode cX7_guard 34 = .ok (.iload_n 3, 1) := by decide +kernel
theorem dX7_guard_35 : decode cX7_guard 35 = .ok (.ireturn, 1) := by decide +kernel
set_option maxRecDepth 20000 in
theorem ggX7_live_X7_in : GoodIn wsX7_live wsX7_in := goodIn_r _ [7] (by decide +kernel) (by decide +kernel)
set_option maxRecDepth 20000 in
theorem gX7_live_X7_in : GoodIn wsX7_live (va_wsS RX7 86 yX7_in wsX7_in) := goodIn_app (goodIn_of _ (by decide +kernel)) ggX7_live_X7_in
theorem dX7_live_0 : decode cX7_live 0 = .ok (.iload_n 1, 1) := by decide +kernel
theorem dX7_live_1 : decode cX7_live 1 = .ok (.i2l, 1) := by decide +kernel
theorem dX7_live_2 : decode cX7_live 2 = .ok (.lconst 0, 1) := by decide +kernel
theorem dX7_live_3 : decode cX7_live 3 = .ok (.ldc2_w 198, 3) := by decide +kernel
theorem dX7_live_6 : decode cX7_live 6 = .ok (.invokestatic 86, 3) := by decide +kernel
theorem dX7_live_9 : decode cX7_live 9 = .ok (.ifCond .ne 6, 3) := by decide +kernel
theorem dX7_live_12 : decode cX7_live 12 = .ok (.bipush (-2), 2) := by decide +kernel
theorem dX7_live_14 : decode cX7_live 14 = .ok (.ireturn, 1) := by decide +kernel
theorem dX7_live_15 : decode cX7_live 15 = .ok (.aload_n 0, 1) := by decide +kernel
theorem dX7_live_16 : decode cX7_live 16 = .ok (.getfield 83, 3) := by decide +kernel
theorem dX7_live_19 : decode cX7_live 19 = .ok (.ifCond .ne 6, 3) := by decide +kernel
theorem dX7_live_22 : decode cX7_live 22 = .ok (.bipush (-3), 2) := by decide +kernel
theorem dX7_live_24 : decode cX7_live 24 = .ok (.ireturn, 1) := by decide +kernel
theorem dX7_live_25 : decode cX7_live 25 = .ok (.aload_n 0, 1) := by decide +kernel
theorem dX7_live_26 : decode cX7_live 26 = .ok (.getfield 142, 3) := by decide +kernel
theorem dX7_live_29 : decode cX7_live 29 = .ok (.istore_n 2, 1) := by decide +kernel
theorem dX7_live_30 : decode cX7_live 30 = .ok (.aload_n 0, 1) := by decide +kernel
theorem dX7_live_31 : decode cX7_live 31 = .ok (.iload_n 1, 1) := by decide +kernel
theorem dX7_live_32 : decode cX7_live 32 = .ok (.putfield 142, 3) := by decide +kernel
theorem dX7_live_35 : decode cX7_live 35 = .ok (.iload_n 2, 1) := by decide +kernel
theorem dX7_live_36 : decode cX7_live 36 = .ok (.ireturn, 1) := by decide +kernel
set_option maxRecDepth 20000 in
theorem ggX7_run_X7_noFunction : GoodIn wsX7_run wsX7_noFunction := goodIn_r _ [9, 10, 11, 12, 8, 13, 48, 49, 50, 51, 52, 53, 54, 55, 56, 57, 58, 59, 60, 61, 62, 63, 64, 65, 66, 67, 68, 69, 70, 71, 72, 73, 74, 75, 76, 77, 78, 79, 80, 81] (by decide +kernel) (by decide +kernel)
set_option maxRecDepth 20000 in
theorem gX7_run_X7_noFunction : GoodIn wsX7_run (wsV RX7 183 RX7 yX7_noFunction wsX7_noFunction) := goodIn_app (goodIn_of _ (by decide +kernel)) ggX7_run_X7_noFunction
set_option maxRecDepth 20000 in
theorem ggX7_run_X7_in : GoodIn wsX7_run wsX7_in := goodIn_r _ [13] (by decide +kernel) (by decide +kernel)
set_option maxRecDepth 20000 in
theorem gX7_run_X7_in : GoodIn wsX7_run (va_wsS RX7 86 yX7_in wsX7_in) := goodIn_app (goodIn_of _ (by decide +kernel)) ggX7_run_X7_in
set_option maxRecDepth 20000 in
theorem ggX7_run_X7_runs : GoodIn wsX7_run wsX7_runs := goodIn_r _ [17, 18, 2, 3, 4, 19, 20, 21, 8, 22, 23, 24, 25, 26, 27, 28, 29, 30, 31, 32, 33, 34, 35, 36, 37, 38, 39, 40, 41, 42, 43, 44, 45, 46, 47, 48, 49, 50, 51, 52, 53, 54, 55, 56, 57, 58, 59, 60, 61, 62, 63, 64, 65, 66, 67, 68, 69, 70, 71, 72, 73, 74, 75, 76, 77, 78, 79, 80, 81] (by decide +kernel) (by decide +kernel)
set_option maxRecDepth 20000 in
theorem gX7_run_X7_runs : GoodIn wsX7_run (wsV RX7 177 RX7 yX7_runs wsX7_runs) := goodIn_app (goodIn_of _ (by decide +kernel)) ggX7_run_X7_runs
theorem dX7_run_0 : decode cX7_run 0 = .ok (.aload_n 0, 1) := by decide +kernel
theorem dX7_run_1 : decode cX7_run 1 = .ok (.iload_n 1, 1) := by decide +kernel
theorem dX7_run_2 : decode cX7_run 2 = .ok (.invokevirtual 183, 3) := by decide +kernel
theorem dX7_run_5 : decode cX7_run 5 = .ok (.ifCond .eq 5, 3) := by decide +kernel
theorem dX7_run_8 : decode cX7_run 8 = .ok (.iconst (-1), 1) := by decide +kernel
theorem dX7_run_9 : decode cX7_run 9 = .ok (.ireturn, 1) := by decide +kernel
theorem dX7_run_10 : decode cX7_run 10 = .ok (.iload_n 2, 1) := by decide +kernel
theorem dX7_run_11 : decode cX7_run 11 = .ok (.i2l, 1) := by decide +kernel
theorem dX7_run_12 : decode cX7_run 12 = .ok (.lconst 0, 1) := by decide +kernel
theorem dX7_run_13 : decode cX7_run 13 = .ok (.ldc2_w 108, 3) := by decide +kernel
theorem dX7_run_16 : decode cX7_run 16 = .ok (.invokestatic 86, 3) := by decide +kernel
theorem dX7_run_19 : decode cX7_run 19 = .ok (.ifCond .ne 6, 3) := by decide +kernel
theorem dX7_run_22 : decode cX7_run 22 = .ok (.bipush (-2), 2) := by decide +kernel
theorem dX7_run_24 : decode cX7_run 24 = .ok (.ireturn, 1) := by decide +kernel
theorem dX7_run_25 : decode cX7_run 25 = .ok (.aload_n 0, 1) := by decide +kernel
theorem dX7_run_26 : decode cX7_run 26 = .ok (.iload_n 1, 1) := by decide +kernel
theorem dX7_run_27 : decode cX7_run 27 = .ok (.invokevirtual 177, 3) := by decide +kernel
theorem dX7_run_30 : decode cX7_run 30 = .ok (.istore_n 3, 1) := by decide +kernel
theorem dX7_run_31 : decode cX7_run 31 = .ok (.iload_n 2, 1) := by decide +kernel
theorem dX7_run_32 : decode cX7_run 32 = .ok (.ifCond .ne 7, 3) := by decide +kernel
theorem dX7_run_35 : decode cX7_run 35 = .ok (.iload_n 3, 1) := by decide +kernel
theorem dX7_run_36 : decode cX7_run 36 = .ok (.goto 31, 3) := by decide +kernel
theorem dX7_run_39 : decode cX7_run 39 = .ok (.iload_n 2, 1) := by decide +kernel
theorem dX7_run_40 : decode cX7_run 40 = .ok (.iconst 1, 1) := by decide +kernel
theorem dX7_run_41 : decode cX7_run 41 = .ok (.if_icmp .ne 10, 3) := by decide +kernel
theorem dX7_run_44 : decode cX7_run 44 = .ok (.aload_n 0, 1) := by decide +kernel
theorem dX7_run_45 : decode cX7_run 45 = .ok (.getfield 154, 3) := by decide +kernel
theorem dX7_run_48 : decode cX7_run 48 = .ok (.goto 19, 3) := by decide +kernel
theorem dX7_run_51 : decode cX7_run 51 = .ok (.iload_n 2, 1) := by decide +kernel
theorem dX7_run_52 : decode cX7_run 52 = .ok (.iconst 2, 1) := by decide +kernel
theorem dX7_run_53 : decode cX7_run 53 = .ok (.if_icmp .ne 10, 3) := by decide +kernel
theorem dX7_run_56 : decode cX7_run 56 = .ok (.aload_n 0, 1) := by decide +kernel
theorem dX7_run_57 : decode cX7_run 57 = .ok (.getfield 151, 3) := by decide +kernel
theorem dX7_run_60 : decode cX7_run 60 = .ok (.goto 7, 3) := by decide +kernel
theorem dX7_run_63 : decode cX7_run 63 = .ok (.aload_n 0, 1) := by decide +kernel
theorem dX7_run_64 : decode cX7_run 64 = .ok (.getfield 157, 3) := by decide +kernel
theorem dX7_run_67 : decode cX7_run 67 = .ok (.ireturn, 1) := by decide +kernel
set_option maxRecDepth 20000 in
theorem ggX7_performed_X7_noFunction : GoodIn wsX7_performed wsX7_noFunction := goodIn_r _ [7, 8, 9, 10, 6, 11, 47, 48, 49, 50, 51, 52, 53, 54, 55, 56, 57, 58, 59, 60, 61, 62, 63, 64, 65, 66, 67, 68, 69, 70, 71, 72, 73, 74, 75, 76, 77, 78, 79, 80] (by decide +kernel) (by decide +kernel)
set_option maxRecDepth 20000 in
theorem gX7_performed_X7_noFunction : GoodIn wsX7_performed (wsV RX7 183 RX7 yX7_noFunction wsX7_noFunction) := goodIn_app (goodIn_of _ (by decide +kernel)) ggX7_performed_X7_noFunction
set_option maxRecDepth 20000 in
theorem ggX7_performed_X7_runs : GoodIn wsX7_performed wsX7_runs := goodIn_r _ [15, 16, 1, 17, 18, 19, 20, 21, 6, 22, 23, 24, 25, 26, 27, 28, 29, 30, 31, 32, 33, 34, 35, 36, 37, 38, 39, 2, 40, 41, 42, 43, 44, 45, 46, 47, 48, 49, 50, 51, 52, 53, 54, 55, 56, 57, 58, 59, 60, 61, 62, 63, 64, 65, 66, 67, 68, 69, 70, 71, 72, 73, 74, 75, 76, 77, 78, 79, 80] (by decide +kernel) (by decide +kernel)
set_option maxRecDepth 20000 in
theorem gX7_performed_X7_runs : GoodIn wsX7_performed (wsV RX7 177 RX7 yX7_runs wsX7_runs) := goodIn_app (goodIn_of _ (by decide +kernel)) ggX7_performed_X7_runs
theorem dX7_performed_0 : decode cX7_performed 0 = .ok (.aload_n 0, 1) := by decide +kernel
theorem dX7_performed_1 : decode cX7_performed 1 = .ok (.iload_n 1, 1) := by decide +kernel
theorem dX7_performed_2 : decode cX7_performed 2 = .ok (.invokevirtual 183, 3) := by decide +kernel
theorem dX7_performed_5 : decode cX7_performed 5 = .ok (.ifCond .eq 5, 3) := by decide +kernel
theorem dX7_performed_8 : decode cX7_performed 8 = .ok (.iconst (-1), 1) := by decide +kernel
theorem dX7_performed_9 : decode cX7_performed 9 = .ok (.ireturn, 1) := by decide +kernel
theorem dX7_performed_10 : decode cX7_performed 10 = .ok (.iload_n 2, 1) := by decide +kernel
theorem dX7_performed_11 : decode cX7_performed 11 = .ok (.ifCond .ge 6, 3) := by decide +kernel
theorem dX7_performed_14 : decode cX7_performed 14 = .ok (.bipush (-2), 2) := by decide +kernel
theorem dX7_performed_16 : decode cX7_performed 16 = .ok (.ireturn, 1) := by decide +kernel
theorem dX7_performed_17 : decode cX7_performed 17 = .ok (.aload_n 0, 1) := by decide +kernel
theorem dX7_performed_18 : decode cX7_performed 18 = .ok (.iload_n 1, 1) := by decide +kernel
theorem dX7_performed_19 : decode cX7_performed 19 = .ok (.invokevirtual 177, 3) := by decide +kernel
theorem dX7_performed_22 : decode cX7_performed 22 = .ok (.istore_n 3, 1) := by decide +kernel
theorem dX7_performed_23 : decode cX7_performed 23 = .ok (.iload_n 2, 1) := by decide +kernel
theorem dX7_performed_24 : decode cX7_performed 24 = .ok (.aload_n 0, 1) := by decide +kernel
theorem dX7_performed_25 : decode cX7_performed 25 = .ok (.getfield 154, 3) := by decide +kernel
theorem dX7_performed_28 : decode cX7_performed 28 = .ok (.if_icmp .ge 12, 3) := by decide +kernel
theorem dX7_performed_31 : decode cX7_performed 31 = .ok (.aload_n 0, 1) := by decide +kernel
theorem dX7_performed_32 : decode cX7_performed 32 = .ok (.getfield 40, 3) := by decide +kernel
theorem dX7_performed_35 : decode cX7_performed 35 = .ok (.iload_n 2, 1) := by decide +kernel
theorem dX7_performed_36 : decode cX7_performed 36 = .ok (.iaload, 1) := by decide +kernel
theorem dX7_performed_37 : decode cX7_performed 37 = .ok (.goto 5, 3) := by decide +kernel
theorem dX7_performed_40 : decode cX7_performed 40 = .ok (.bipush (-9), 2) := by decide +kernel
theorem dX7_performed_42 : decode cX7_performed 42 = .ok (.ireturn, 1) := by decide +kernel
set_option maxRecDepth 20000 in
theorem ggX7_path_X7_noFunction : GoodIn wsX7_path wsX7_noFunction := goodIn_r _ [8, 9, 10, 11, 7, 12, 48, 49, 50, 51, 52, 53, 54, 55, 56, 57, 58, 59, 60, 61, 62, 63, 64, 65, 66, 67, 68, 69, 70, 71, 72, 73, 74, 75, 76, 77, 78, 79, 80, 81] (by decide +kernel) (by decide +kernel)
set_option maxRecDepth 20000 in
theorem gX7_path_X7_noFunction : GoodIn wsX7_path (wsV RX7 183 RX7 yX7_noFunction wsX7_noFunction) := goodIn_app (goodIn_of _ (by decide +kernel)) ggX7_path_X7_noFunction
set_option maxRecDepth 20000 in
theorem ggX7_path_X7_in : GoodIn wsX7_path wsX7_in := goodIn_r _ [12] (by decide +kernel) (by decide +kernel)
set_option maxRecDepth 20000 in
theorem gX7_path_X7_in : GoodIn wsX7_path (va_wsS RX7 86 yX7_in wsX7_in) := goodIn_app (goodIn_of _ (by decide +kernel)) ggX7_path_X7_in
set_option maxRecDepth 20000 in
theorem ggX7_path_X7_runs : GoodIn wsX7_path wsX7_runs := goodIn_r _ [16, 17, 18, 19, 2, 20, 21, 22, 7, 23, 24, 25, 26, 27, 28, 29, 30, 31, 32, 33, 34, 35, 36, 37, 38, 39, 40, 41, 3, 42, 43, 44, 45, 46, 47, 48, 49, 50, 51, 52, 53, 54, 55, 56, 57, 58, 59, 60, 61, 62, 63, 64, 65, 66, 67, 68, 69, 70, 71, 72, 73, 74, 75, 76, 77, 78, 79, 80, 81] (by decide +kernel) (by decide +kernel)
set_option maxRecDepth 20000 in
theorem gX7_path_X7_runs : GoodIn wsX7_path (wsV RX7 177 RX7 yX7_runs wsX7_runs) := goodIn_app (goodIn_of _ (by decide +kernel)) ggX7_path_X7_runs
theorem dX7_path_0 : decode cX7_path 0 = .ok (.aload_n 0, 1) := by decide +kernel
theorem dX7_path_1 : decode cX7_path 1 = .ok (.iload_n 1, 1) := by decide +kernel
theorem dX7_path_2 : decode cX7_path 2 = .ok (.invokevirtual 183, 3) := by decide +kernel
theorem dX7_path_5 : decode cX7_path 5 = .ok (.ifCond .eq 5, 3) := by decide +kernel
theorem dX7_path_8 : decode cX7_path 8 = .ok (.iconst (-1), 1) := by decide +kernel
theorem dX7_path_9 : decode cX7_path 9 = .ok (.ireturn, 1) := by decide +kernel
theorem dX7_path_10 : decode cX7_path 10 = .ok (.iload_n 2, 1) := by decide +kernel
theorem dX7_path_11 : decode cX7_path 11 = .ok (.i2l, 1) := by decide +kernel
theorem dX7_path_12 : decode cX7_path 12 = .ok (.lconst 0, 1) := by decide +kernel
theorem dX7_path_13 : decode cX7_path 13 = .ok (.ldc2_w 200, 3) := by decide +kernel
theorem dX7_path_16 : decode cX7_path 16 = .ok (.invokestatic 86, 3) := by decide +kernel
theorem dX7_path_19 : decode cX7_path 19 = .ok (.ifCond .ne 6, 3) := by decide +kernel
theorem dX7_path_22 : decode cX7_path 22 = .ok (.bipush (-2), 2) := by decide +kernel
theorem dX7_path_24 : decode cX7_path 24 = .ok (.ireturn, 1) := by decide +kernel
theorem dX7_path_25 : decode cX7_path 25 = .ok (.aload_n 0, 1) := by decide +kernel
theorem dX7_path_26 : decode cX7_path 26 = .ok (.iload_n 1, 1) := by decide +kernel
theorem dX7_path_27 : decode cX7_path 27 = .ok (.invokevirtual 177, 3) := by decide +kernel
theorem dX7_path_30 : decode cX7_path 30 = .ok (.istore_n 3, 1) := by decide +kernel
theorem dX7_path_31 : decode cX7_path 31 = .ok (.iload_n 2, 1) := by decide +kernel
theorem dX7_path_32 : decode cX7_path 32 = .ok (.aload_n 0, 1) := by decide +kernel
theorem dX7_path_33 : decode cX7_path 33 = .ok (.getfield 157, 3) := by decide +kernel
theorem dX7_path_36 : decode cX7_path 36 = .ok (.if_icmp .ge 12, 3) := by decide +kernel
theorem dX7_path_39 : decode cX7_path 39 = .ok (.aload_n 0, 1) := by decide +kernel
theorem dX7_path_40 : decode cX7_path 40 = .ok (.getfield 43, 3) := by decide +kernel
theorem dX7_path_43 : decode cX7_path 43 = .ok (.iload_n 2, 1) := by decide +kernel
theorem dX7_path_44 : decode cX7_path 44 = .ok (.iaload, 1) := by decide +kernel
theorem dX7_path_45 : decode cX7_path 45 = .ok (.goto 5, 3) := by decide +kernel
theorem dX7_path_48 : decode cX7_path 48 = .ok (.bipush (-9), 2) := by decide +kernel
theorem dX7_path_50 : decode cX7_path 50 = .ok (.ireturn, 1) := by decide +kernel
set_option maxRecDepth 20000 in
theorem ggX7_isAsTold_X7_in : GoodIn wsX7_isAsTold wsX7_in := goodIn_r _ [5] (by decide +kernel) (by decide +kernel)
set_option maxRecDepth 20000 in
theorem gX7_isAsTold_X7_in : GoodIn wsX7_isAsTold (va_wsS RX7 86 yX7_in wsX7_in) := goodIn_app (goodIn_of _ (by decide +kernel)) ggX7_isAsTold_X7_in
theorem dX7_isAsTold_0 : decode cX7_isAsTold 0 = .ok (.iload_n 1, 1) := by decide +kernel
theorem dX7_isAsTold_1 : decode cX7_isAsTold 1 = .ok (.iconst 5, 1) := by decide +kernel
theorem dX7_isAsTold_2 : decode cX7_isAsTold 2 = .ok (.if_icmp .ne 8, 3) := by decide +kernel
theorem dX7_isAsTold_5 : decode cX7_isAsTold 5 = .ok (.bipush 15, 2) := by decide +kernel
theorem dX7_isAsTold_7 : decode cX7_isAsTold 7 = .ok (.goto 13, 3) := by decide +kernel
theorem dX7_isAsTold_10 : decode cX7_isAsTold 10 = .ok (.iload_n 1, 1) := by decide +kernel
theorem dX7_isAsTold_11 : decode cX7_isAsTold 11 = .ok (.iconst 5, 1) := by decide +kernel
theorem dX7_isAsTold_12 : decode cX7_isAsTold 12 = .ok (.if_icmp .le 7, 3) := by decide +kernel
theorem dX7_isAsTold_15 : decode cX7_isAsTold 15 = .ok (.iconst 3, 1) := by decide +kernel
theorem dX7_isAsTold_16 : decode cX7_isAsTold 16 = .ok (.goto 4, 3) := by decide +kernel
theorem dX7_isAsTold_19 : decode cX7_isAsTold 19 = .ok (.iconst 0, 1) := by decide +kernel
theorem dX7_isAsTold_20 : decode cX7_isAsTold 20 = .ok (.istore_n 2, 1) := by decide +kernel
theorem dX7_isAsTold_21 : decode cX7_isAsTold 21 = .ok (.iload_n 1, 1) := by decide +kernel
theorem dX7_isAsTold_22 : decode cX7_isAsTold 22 = .ok (.i2l, 1) := by decide +kernel
theorem dX7_isAsTold_23 : decode cX7_isAsTold 23 = .ok (.lconst 0, 1) := by decide +kernel
theorem dX7_isAsTold_24 : decode cX7_isAsTold 24 = .ok (.ldc2_w 202, 3) := by decide +kernel
theorem dX7_isAsTold_27 : decode cX7_isAsTold 27 = .ok (.invokestatic 86, 3) := by decide +kernel
theorem dX7_isAsTold_30 : decode cX7_isAsTold 30 = .ok (.ifCond .eq 18, 3) := by decide +kernel
theorem dX7_isAsTold_33 : decode cX7_isAsTold 33 = .ok (.iload_n 0, 1) := by decide +kernel
theorem dX7_isAsTold_34 : decode cX7_isAsTold 34 = .ok (.i2l, 1) := by decide +kernel
theorem dX7_isAsTold_35 : decode cX7_isAsTold 35 = .ok (.lconst 0, 1) := by decide +kernel
theorem dX7_isAsTold_36 : decode cX7_isAsTold 36 = .ok (.iload_n 2, 1) := by decide +kernel
theorem dX7_isAsTold_37 : decode cX7_isAsTold 37 = .ok (.i2l, 1) := by decide +kernel
theorem dX7_isAsTold_38 : decode cX7_isAsTold 38 = .ok (.invokestatic 86, 3) := by decide +kernel
theorem dX7_isAsTold_41 : decode cX7_isAsTold 41 = .ok (.ifCond .eq 7, 3) := by decide +kernel
theorem dX7_isAsTold_44 : decode cX7_isAsTold 44 = .ok (.iconst 1, 1) := by decide +kernel
theorem dX7_isAsTold_45 : decode cX7_isAsTold 45 = .ok (.goto 4, 3) := by decide +kernel
theorem dX7_isAsTold_48 : decode cX7_isAsTold 48 = .ok (.iconst 0, 1) := by decide +kernel
theorem dX7_isAsTold_49 : decode cX7_isAsTold 49 = .ok (.ireturn, 1) := by decide +kernel
set_option maxRecDepth 20000 in
theorem ggX7_runsOnly_X7_noFunction : GoodIn wsX7_runsOnly wsX7_noFunction := goodIn_r _ [9, 10, 11, 12, 8, 13, 49, 50, 51, 52, 53, 54, 55, 56, 57, 58, 59, 60, 61, 62, 63, 64, 65, 66, 67, 68, 69, 70, 71, 72, 73, 74, 75, 76, 77, 78, 79, 80, 81, 82] (by decide +kernel) (by decide +kernel)
set_option maxRecDepth 20000 in
theorem gX7_runsOnly_X7_noFunction : GoodIn wsX7_runsOnly (wsV RX7 183 RX7 yX7_noFunction wsX7_noFunction) := goodIn_app (goodIn_of _ (by decide +kernel)) ggX7_runsOnly_X7_noFunction
set_option maxRecDepth 20000 in
theorem ggX7_runsOnly_X7_runs : GoodIn wsX7_runsOnly wsX7_runs := goodIn_r _ [17, 18, 2, 4, 19, 20, 21, 22, 8, 23, 24, 25, 26, 27, 28, 29, 30, 31, 32, 33, 34, 35, 36, 37, 38, 39, 40, 41, 42, 43, 44, 45, 46, 47, 48, 49, 50, 51, 52, 53, 54, 55, 56, 57, 58, 59, 60, 61, 62, 63, 64, 65, 66, 67, 68, 69, 70, 71, 72, 73, 74, 75, 76, 77, 78, 79, 80, 81, 82] (by decide +kernel) (by decide +kernel)
set_option maxRecDepth 20000 in
theorem gX7_runsOnly_X7_runs : GoodIn wsX7_runsOnly (wsV RX7 177 RX7 yX7_runs wsX7_runs) := goodIn_app (goodIn_of _ (by decide +kernel)) ggX7_runsOnly_X7_runs
theorem dX7_runsOnly_0 : decode cX7_runsOnly 0 = .ok (.aload_n 0, 1) := by decide +kernel
theorem dX7_runsOnly_1 : decode cX7_runsOnly 1 = .ok (.iload_n 1, 1) := by decide +kernel
theorem dX7_runsOnly_2 : decode cX7_runsOnly 2 = .ok (.invokevirtual 183, 3) := by decide +kernel
theorem dX7_runsOnly_5 : decode cX7_runsOnly 5 = .ok (.ifCond .eq 5, 3) := by decide +kernel
theorem dX7_runsOnly_8 : decode cX7_runsOnly 8 = .ok (.iconst 0, 1) := by decide +kernel
theorem dX7_runsOnly_9 : decode cX7_runsOnly 9 = .ok (.ireturn, 1) := by decide +kernel
theorem dX7_runsOnly_10 : decode cX7_runsOnly 10 = .ok (.aload_n 0, 1) := by decide +kernel
theorem dX7_runsOnly_11 : decode cX7_runsOnly 11 = .ok (.iload_n 1, 1) := by decide +kernel
theorem dX7_runsOnly_12 : decode cX7_runsOnly 12 = .ok (.invokevirtual 177, 3) := by decide +kernel
theorem dX7_runsOnly_15 : decode cX7_runsOnly 15 = .ok (.istore_n 2, 1) := by decide +kernel
theorem dX7_runsOnly_16 : decode cX7_runsOnly 16 = .ok (.aload_n 0, 1) := by decide +kernel
theorem dX7_runsOnly_17 : decode cX7_runsOnly 17 = .ok (.dup, 1) := by decide +kernel
theorem dX7_runsOnly_18 : decode cX7_runsOnly 18 = .ok (.getfield 204, 3) := by decide +kernel
theorem dX7_runsOnly_21 : decode cX7_runsOnly 21 = .ok (.aload_n 0, 1) := by decide +kernel
theorem dX7_runsOnly_22 : decode cX7_runsOnly 22 = .ok (.getfield 154, 3) := by decide +kernel
theorem dX7_runsOnly_25 : decode cX7_runsOnly 25 = .ok (.iadd, 1) := by decide +kernel
theorem dX7_runsOnly_26 : decode cX7_runsOnly 26 = .ok (.putfield 204, 3) := by decide +kernel
theorem dX7_runsOnly_29 : decode cX7_runsOnly 29 = .ok (.aload_n 0, 1) := by decide +kernel
theorem dX7_runsOnly_30 : decode cX7_runsOnly 30 = .ok (.dup, 1) := by decide +kernel
theorem dX7_runsOnly_31 : decode cX7_runsOnly 31 = .ok (.getfield 207, 3) := by decide +kernel
theorem dX7_runsOnly_34 : decode cX7_runsOnly 34 = .ok (.aload_n 0, 1) := by decide +kernel
theorem dX7_runsOnly_35 : decode cX7_runsOnly 35 = .ok (.getfield 151, 3) := by decide +kernel
theorem dX7_runsOnly_38 : decode cX7_runsOnly 38 = .ok (.iadd, 1) := by decide +kernel
theorem dX7_runsOnly_39 : decode cX7_runsOnly 39 = .ok (.putfield 207, 3) := by decide +kernel
theorem dX7_runsOnly_42 : decode cX7_runsOnly 42 = .ok (.iload_n 2, 1) := by decide +kernel
theorem dX7_runsOnly_43 : decode cX7_runsOnly 43 = .ok (.ifCond .ge 7, 3) := by decide +kernel
theorem dX7_runsOnly_46 : decode cX7_runsOnly 46 = .ok (.iconst 1, 1) := by decide +kernel
theorem dX7_runsOnly_47 : decode cX7_runsOnly 47 = .ok (.goto 4, 3) := by decide +kernel
theorem dX7_runsOnly_50 : decode cX7_runsOnly 50 = .ok (.iconst 0, 1) := by decide +kernel
theorem dX7_runsOnly_51 : decode cX7_runsOnly 51 = .ok (.ireturn, 1) := by decide +kernel
set_option maxRecDepth 20000 in
theorem ggX7_doesPair_X7_runsOnly : GoodIn wsX7_doesPair wsX7_runsOnly := goodIn_r _ [5, 6, 7, 8, 9, 10, 11, 12, 4, 13, 14, 15, 16, 17, 18, 19, 20, 21, 22, 23, 24, 25, 26, 27, 28, 29, 30, 31, 32, 33, 34, 35, 36, 37, 38, 39, 40, 41, 42, 43, 44, 45, 46, 47, 48, 49, 50, 51, 52, 66, 67, 68, 69, 70, 71, 72, 73, 74, 75, 76, 77, 78, 79, 80, 81, 82, 83, 84, 85, 86, 87, 88, 89, 90, 91, 92, 93, 94, 95, 96, 97, 98, 99] (by decide +kernel) (by decide +kernel)
set_option maxRecDepth 20000 in
theorem gX7_doesPair_X7_runsOnly : GoodIn wsX7_doesPair (wsV RX7 210 RX7 yX7_runsOnly wsX7_runsOnly) := goodIn_app (goodIn_of _ (by decide +kernel)) ggX7_doesPair_X7_runsOnly
set_option maxRecDepth 20000 in
theorem ggX7_doesPair_X7_live : GoodIn wsX7_doesPair wsX7_live := goodIn_r _ [56, 57, 14, 36, 15, 16, 4, 17, 66, 67, 68, 69, 70, 71, 72, 73, 74, 75, 76, 77, 78, 79, 80, 81, 82, 83, 84, 85, 86, 87, 88, 89, 90, 91, 92, 93, 94, 95, 96, 97, 98, 99] (by decide +kernel) (by decide +kernel)
set_option maxRecDepth 20000 in
theorem gX7_doesPair_X7_live : GoodIn wsX7_doesPair (wsV RX7 213 RX7 yX7_live wsX7_live) := goodIn_app (goodIn_of _ (by decide +kernel)) ggX7_doesPair_X7_live
set_option maxRecDepth 20000 in
theorem ggX7_doesPair_X7_guard : GoodIn wsX7_doesPair wsX7_guard := goodIn_r _ [61, 52, 10, 11, 12, 4, 13, 14, 15, 16, 17, 62, 63, 64, 65, 66, 67, 68, 69, 70, 71, 72, 73, 74, 75, 76, 77, 78, 79, 80, 81, 82, 83, 84, 85, 86, 87, 88, 89, 90, 91, 92, 93, 94, 95, 96, 97, 98, 99] (by decide +kernel) (by decide +kernel)
set_option maxRecDepth 20000 in
theorem gX7_doesPair_X7_guard : GoodIn wsX7_doesPair (wsV RX7 216 RX7 yX7_guard wsX7_guard) := goodIn_app (goodIn_of _ (by decide +kernel)) ggX7_doesPair_X7_guard
theorem dX7_doesPair_0 : decode cX7_doesPair 0 = .ok (.iload_n 2, 1) := by decide +kernel
theorem dX7_doesPair_1 : decode cX7_doesPair 1 = .ok (.iconst 5, 1) := by decide +kernel
theorem dX7_doesPair_2 : decode cX7_doesPair 2 = .ok (.if_icmp .ge 11, 3) := by decide +kernel
theorem dX7_doesPair_5 : decode cX7_doesPair 5 = .ok (.aload_n 0, 1) := by decide +kernel
theorem dX7_doesPair_6 : decode cX7_doesPair 6 = .ok (.iload_n 2, 1) := by decide +kernel
theorem dX7_doesPair_7 : decode cX7_doesPair 7 = .ok (.invokevirtual 210, 3) := by decide +kernel
theorem dX7_doesPair_10 : decode cX7_doesPair 10 = .ok (.goto 41, 3) := by decide +kernel
theorem dX7_doesPair_13 : decode cX7_doesPair 13 = .ok (.iload_n 2, 1) := by decide +kernel
theorem dX7_doesPair_14 : decode cX7_doesPair 14 = .ok (.iconst 5, 1) := by decide +kernel
theorem dX7_doesPair_15 : decode cX7_doesPair 15 = .ok (.if_icmp .ne 19, 3) := by decide +kernel
theorem dX7_doesPair_18 : decode cX7_doesPair 18 = .ok (.aload_n 0, 1) := by decide +kernel
theorem dX7_doesPair_19 : decode cX7_doesPair 19 = .ok (.iload_n 1, 1) := by decide +kernel
theorem dX7_doesPair_20 : decode cX7_doesPair 20 = .ok (.invokevirtual 213, 3) := by decide +kernel
theorem dX7_doesPair_23 : decode cX7_doesPair 23 = .ok (.ifCond .lt 7, 3) := by decide +kernel
theorem dX7_doesPair_26 : decode cX7_doesPair 26 = .ok (.iconst 1, 1) := by decide +kernel
theorem dX7_doesPair_27 : decode cX7_doesPair 27 = .ok (.goto 24, 3) := by decide +kernel
theorem dX7_doesPair_30 : decode cX7_doesPair 30 = .ok (.iconst 0, 1) := by decide +kernel
theorem dX7_doesPair_31 : decode cX7_doesPair 31 = .ok (.goto 20, 3) := by decide +kernel
theorem dX7_doesPair_34 : decode cX7_doesPair 34 = .ok (.aload_n 0, 1) := by decide +kernel
theorem dX7_doesPair_35 : decode cX7_doesPair 35 = .ok (.iload_n 2, 1) := by decide +kernel
theorem dX7_doesPair_36 : decode cX7_doesPair 36 = .ok (.bipush 6, 2) := by decide +kernel
theorem dX7_doesPair_38 : decode cX7_doesPair 38 = .ok (.isub, 1) := by decide +kernel
theorem dX7_doesPair_39 : decode cX7_doesPair 39 = .ok (.iload_n 1, 1) := by decide +kernel
theorem dX7_doesPair_40 : decode cX7_doesPair 40 = .ok (.invokevirtual 216, 3) := by decide +kernel
theorem dX7_doesPair_43 : decode cX7_doesPair 43 = .ok (.ifCond .lt 7, 3) := by decide +kernel
theorem dX7_doesPair_46 : decode cX7_doesPair 46 = .ok (.iconst 1, 1) := by decide +kernel
theorem dX7_doesPair_47 : decode cX7_doesPair 47 = .ok (.goto 4, 3) := by decide +kernel
theorem dX7_doesPair_50 : decode cX7_doesPair 50 = .ok (.iconst 0, 1) := by decide +kernel
theorem dX7_doesPair_51 : decode cX7_doesPair 51 = .ok (.ireturn, 1) := by decide +kernel
set_option maxRecDepth 20000 in
theorem ggX7_allRows_X7_rows : GoodIn wsX7_allRows wsX7_rows := goodIn_r _ [7, 1, 8, 9, 2, 10, 11, 12, 13, 14, 15, 16, 17, 18, 19, 20, 21, 22, 23, 24, 25, 26, 27, 28, 29, 30, 31, 32, 33, 34, 35, 36, 37, 38, 39, 40, 41, 42, 43, 44, 45] (by decide +kernel) (by decide +kernel)
set_option maxRecDepth 20000 in
theorem gX7_allRows_X7_rows : GoodIn wsX7_allRows (wsV RX7 186 RX7 yX7_rows wsX7_rows) := goodIn_app (goodIn_of _ (by decide +kernel)) ggX7_allRows_X7_rows
theorem dX7_allRows_0 : decode cX7_allRows 0 = .ok (.aload_n 0, 1) := by decide +kernel
theorem dX7_allRows_1 : decode cX7_allRows 1 = .ok (.invokevirtual 186, 3) := by decide +kernel
theorem dX7_allRows_4 : decode cX7_allRows 4 = .ok (.iconst 0, 1) := by decide +kernel
theorem dX7_allRows_5 : decode cX7_allRows 5 = .ok (.istore_n 1, 1) := by decide +kernel
theorem dX7_allRows_6 : decode cX7_allRows 6 = .ok (.iconst 0, 1) := by decide +kernel
theorem dX7_allRows_7 : decode cX7_allRows 7 = .ok (.istore_n 2, 1) := by decide +kernel
theorem dX7_allRows_8 : decode cX7_allRows 8 = .ok (.iload_n 2, 1) := by decide +kernel
theorem dX7_allRows_9 : decode cX7_allRows 9 = .ok (.aload_n 0, 1) := by decide +kernel
theorem dX7_allRows_10 : decode cX7_allRows 10 = .ok (.getfield 83, 3) := by decide +kernel
theorem dX7_allRows_13 : decode cX7_allRows 13 = .ok (.if_icmp .ge 18, 3) := by decide +kernel
theorem dX7_allRows_16 : decode cX7_allRows 16 = .ok (.iload_n 1, 1) := by decide +kernel
theorem dX7_allRows_17 : decode cX7_allRows 17 = .ok (.aload_n 0, 1) := by decide +kernel
theorem dX7_allRows_18 : decode cX7_allRows 18 = .ok (.getfield 46, 3) := by decide +kernel
theorem dX7_allRows_21 : decode cX7_allRows 21 = .ok (.iload_n 2, 1) := by decide +kernel
theorem dX7_allRows_22 : decode cX7_allRows 22 = .ok (.iaload, 1) := by decide +kernel
theorem dX7_allRows_23 : decode cX7_allRows 23 = .ok (.ior, 1) := by decide +kernel
theorem dX7_allRows_24 : decode cX7_allRows 24 = .ok (.istore_n 1, 1) := by decide +kernel
theorem dX7_allRows_25 : decode cX7_allRows 25 = .ok (.iinc 2 1, 3) := by decide +kernel
theorem dX7_allRows_28 : decode cX7_allRows 28 = .ok (.goto (-20), 3) := by decide +kernel
theorem dX7_allRows_31 : decode cX7_allRows 31 = .ok (.iload_n 1, 1) := by decide +kernel
theorem dX7_allRows_32 : decode cX7_allRows 32 = .ok (.ireturn, 1) := by decide +kernel
set_option maxRecDepth 20000 in
theorem ggX7_dayOf_X7_doesPair : GoodIn wsX7_dayOf wsX7_doesPair := goodIn_r _ [10, 11, 12, 13, 9, 14, 1, 15, 2, 16, 17, 18, 19, 20, 21, 22, 23, 24, 25, 26, 27, 28, 29, 30, 31, 32, 33, 34, 35, 36, 37, 38, 39, 40, 41, 42, 5, 43, 44, 45, 46, 47, 48, 49, 50, 51, 52, 53, 54, 55, 56, 57, 4, 58, 59, 60, 61, 62, 63, 64, 65, 66, 67, 68, 69, 70, 80, 81, 82, 83, 84, 85, 86, 87, 88, 89, 90, 91, 92, 93, 94, 95, 96, 97, 98, 99, 100, 101, 102, 103, 104, 105, 106, 107, 108, 109, 110, 111, 112, 113] (by decide +kernel) (by decide +kernel)
set_option maxRecDepth 20000 in
theorem gX7_dayOf_X7_doesPair : GoodIn wsX7_dayOf (wsV RX7 219 RX7 yX7_doesPair wsX7_doesPair) := goodIn_app (goodIn_of _ (by decide +kernel)) ggX7_dayOf_X7_doesPair
set_option maxRecDepth 20000 in
theorem ggX7_dayOf_X7_noFunction : GoodIn wsX7_dayOf wsX7_noFunction := goodIn_r _ [20, 21, 22, 23, 9, 24, 80, 81, 82, 83, 84, 85, 86, 87, 88, 89, 90, 91, 92, 93, 94, 95, 96, 97, 98, 99, 100, 101, 102, 103, 104, 105, 106, 107, 108, 109, 110, 111, 112, 113] (by decide +kernel) (by decide +kernel)
set_option maxRecDepth 20000 in
theorem gX7_dayOf_X7_noFunction : GoodIn wsX7_dayOf (wsV RX7 183 RX7 yX7_noFunction wsX7_noFunction) := goodIn_app (goodIn_of _ (by decide +kernel)) ggX7_dayOf_X7_noFunction
set_option maxRecDepth 20000 in
theorem ggX7_dayOf_X7_allRows : GoodIn wsX7_dayOf wsX7_allRows := goodIn_r _ [74, 21, 75, 76, 77, 78, 9, 79, 41, 42, 57, 4, 80, 81, 82, 83, 84, 85, 86, 87, 88, 89, 90, 91, 92, 93, 94, 95, 96, 97, 98, 99, 100, 101, 102, 103, 104, 105, 106, 107, 108, 109, 110, 111, 112, 113] (by decide +kernel) (by decide +kernel)
set_option maxRecDepth 20000 in
theorem gX7_dayOf_X7_allRows : GoodIn wsX7_dayOf (wsV RX7 222 RX7 yX7_allRows wsX7_allRows) := goodIn_app (goodIn_of _ (by decide +kernel)) ggX7_dayOf_X7_allRows
theorem dX7_dayOf_0 : decode cX7_dayOf 0 = .ok (.bipush (-9), 2) := by decide +kernel
theorem dX7_dayOf_2 : decode cX7_dayOf 2 = .ok (.istore 4, 2) := by decide +kernel
theorem dX7_dayOf_4 : decode cX7_dayOf 4 = .ok (.aload_n 0, 1) := by decide +kernel
theorem dX7_dayOf_5 : decode cX7_dayOf 5 = .ok (.iconst 0, 1) := by decide +kernel
theorem dX7_dayOf_6 : decode cX7_dayOf 6 = .ok (.putfield 204, 3) := by decide +kernel
theorem dX7_dayOf_9 : decode cX7_dayOf 9 = .ok (.aload_n 0, 1) := by decide +kernel
theorem dX7_dayOf_10 : decode cX7_dayOf 10 = .ok (.iconst 0, 1) := by decide +kernel
theorem dX7_dayOf_11 : decode cX7_dayOf 11 = .ok (.putfield 207, 3) := by decide +kernel
theorem dX7_dayOf_14 : decode cX7_dayOf 14 = .ok (.iconst 0, 1) := by decide +kernel
theorem dX7_dayOf_15 : decode cX7_dayOf 15 = .ok (.istore 5, 2) := by decide +kernel
theorem dX7_dayOf_17 : decode cX7_dayOf 17 = .ok (.iload 5, 2) := by decide +kernel
theorem dX7_dayOf_19 : decode cX7_dayOf 19 = .ok (.iload_n 2, 1) := by decide +kernel
theorem dX7_dayOf_20 : decode cX7_dayOf 20 = .ok (.if_icmp .ge 54, 3) := by decide +kernel
theorem dX7_dayOf_23 : decode cX7_dayOf 23 = .ok (.iload 4, 2) := by decide +kernel
theorem dX7_dayOf_25 : decode cX7_dayOf 25 = .ok (.ifCond .ge 49, 3) := by decide +kernel
theorem dX7_dayOf_28 : decode cX7_dayOf 28 = .ok (.aload_n 0, 1) := by decide +kernel
theorem dX7_dayOf_29 : decode cX7_dayOf 29 = .ok (.aload_n 0, 1) := by decide +kernel
theorem dX7_dayOf_30 : decode cX7_dayOf 30 = .ok (.getfield 67, 3) := by decide +kernel
theorem dX7_dayOf_33 : decode cX7_dayOf 33 = .ok (.iload_n 1, 1) := by decide +kernel
theorem dX7_dayOf_34 : decode cX7_dayOf 34 = .ok (.iconst 2, 1) := by decide +kernel
theorem dX7_dayOf_35 : decode cX7_dayOf 35 = .ok (.iload 5, 2) := by decide +kernel
theorem dX7_dayOf_37 : decode cX7_dayOf 37 = .ok (.imul, 1) := by decide +kernel
theorem dX7_dayOf_38 : decode cX7_dayOf 38 = .ok (.iadd, 1) := by decide +kernel
theorem dX7_dayOf_39 : decode cX7_dayOf 39 = .ok (.iaload, 1) := by decide +kernel
theorem dX7_dayOf_40 : decode cX7_dayOf 40 = .ok (.aload_n 0, 1) := by decide +kernel
theorem dX7_dayOf_41 : decode cX7_dayOf 41 = .ok (.getfield 67, 3) := by decide +kernel
theorem dX7_dayOf_44 : decode cX7_dayOf 44 = .ok (.iload_n 1, 1) := by decide +kernel
theorem dX7_dayOf_45 : decode cX7_dayOf 45 = .ok (.iconst 2, 1) := by decide +kernel
theorem dX7_dayOf_46 : decode cX7_dayOf 46 = .ok (.iload 5, 2) := by decide +kernel
theorem dX7_dayOf_48 : decode cX7_dayOf 48 = .ok (.imul, 1) := by decide +kernel
theorem dX7_dayOf_49 : decode cX7_dayOf 49 = .ok (.iadd, 1) := by decide +kernel
theorem dX7_dayOf_50 : decode cX7_dayOf 50 = .ok (.iconst 1, 1) := by decide +kernel
theorem dX7_dayOf_51 : decode cX7_dayOf 51 = .ok (.iadd, 1) := by decide +kernel
theorem dX7_dayOf_52 : decode cX7_dayOf 52 = .ok (.iaload, 1) := by decide +kernel
theorem dX7_dayOf_53 : decode cX7_dayOf 53 = .ok (.invokevirtual 219, 3) := by decide +kernel
theorem dX7_dayOf_56 : decode cX7_dayOf 56 = .ok (.ifCond .eq 8, 3) := by decide +kernel
theorem dX7_dayOf_59 : decode cX7_dayOf 59 = .ok (.bipush (-9), 2) := by decide +kernel
theorem dX7_dayOf_61 : decode cX7_dayOf 61 = .ok (.goto 5, 3) := by decide +kernel
theorem dX7_dayOf_64 : decode cX7_dayOf 64 = .ok (.iload 5, 2) := by decide +kernel
theorem dX7_dayOf_66 : decode cX7_dayOf 66 = .ok (.istore 4, 2) := by decide +kernel
theorem dX7_dayOf_68 : decode cX7_dayOf 68 = .ok (.iinc 5 1, 3) := by decide +kernel
theorem dX7_dayOf_71 : decode cX7_dayOf 71 = .ok (.goto (-54), 3) := by decide +kernel
theorem dX7_dayOf_74 : decode cX7_dayOf 74 = .ok (.iload_n 3, 1) := by decide +kernel
theorem dX7_dayOf_75 : decode cX7_dayOf 75 = .ok (.iconst 1, 1) := by decide +kernel
theorem dX7_dayOf_76 : decode cX7_dayOf 76 = .ok (.if_icmp .ne 6, 3) := by decide +kernel
theorem dX7_dayOf_79 : decode cX7_dayOf 79 = .ok (.iload 4, 2) := by decide +kernel
theorem dX7_dayOf_81 : decode cX7_dayOf 81 = .ok (.ireturn, 1) := by decide +kernel
theorem dX7_dayOf_82 : decode cX7_dayOf 82 = .ok (.iload 4, 2) := by decide +kernel
theorem dX7_dayOf_84 : decode cX7_dayOf 84 = .ok (.ifCond .lt 9, 3) := by decide +kernel
theorem dX7_dayOf_87 : decode cX7_dayOf 87 = .ok (.bipush (-100), 2) := by decide +kernel
theorem dX7_dayOf_89 : decode cX7_dayOf 89 = .ok (.iload 4, 2) := by decide +kernel
theorem dX7_dayOf_91 : decode cX7_dayOf 91 = .ok (.isub, 1) := by decide +kernel
theorem dX7_dayOf_92 : decode cX7_dayOf 92 = .ok (.ireturn, 1) := by decide +kernel
theorem dX7_dayOf_93 : decode cX7_dayOf 93 = .ok (.iload_n 3, 1) := by decide +kernel
theorem dX7_dayOf_94 : decode cX7_dayOf 94 = .ok (.bipush 10, 2) := by decide +kernel
theorem dX7_dayOf_96 : decode cX7_dayOf 96 = .ok (.if_icmp .lt 29, 3) := by decide +kernel
theorem dX7_dayOf_99 : decode cX7_dayOf 99 = .ok (.aload_n 0, 1) := by decide +kernel
theorem dX7_dayOf_100 : decode cX7_dayOf 100 = .ok (.iload_n 3, 1) := by decide +kernel
theorem dX7_dayOf_101 : decode cX7_dayOf 101 = .ok (.bipush 10, 2) := by decide +kernel
theorem dX7_dayOf_103 : decode cX7_dayOf 103 = .ok (.isub, 1) := by decide +kernel
theorem dX7_dayOf_104 : decode cX7_dayOf 104 = .ok (.invokevirtual 183, 3) := by decide +kernel
theorem dX7_dayOf_107 : decode cX7_dayOf 107 = .ok (.ifCond .eq 8, 3) := by decide +kernel
theorem dX7_dayOf_110 : decode cX7_dayOf 110 = .ok (.bipush (-9), 2) := by decide +kernel
theorem dX7_dayOf_112 : decode cX7_dayOf 112 = .ok (.goto 12, 3) := by decide +kernel
theorem dX7_dayOf_115 : decode cX7_dayOf 115 = .ok (.aload_n 0, 1) := by decide +kernel
theorem dX7_dayOf_116 : decode cX7_dayOf 116 = .ok (.getfield 13, 3) := by decide +kernel
theorem dX7_dayOf_119 : decode cX7_dayOf 119 = .ok (.iload_n 3, 1) := by decide +kernel
theorem dX7_dayOf_120 : decode cX7_dayOf 120 = .ok (.bipush 10, 2) := by decide +kernel
theorem dX7_dayOf_122 : decode cX7_dayOf 122 = .ok (.isub, 1) := by decide +kernel
theorem dX7_dayOf_123 : decode cX7_dayOf 123 = .ok (.iaload, 1) := by decide +kernel
theorem dX7_dayOf_124 : decode cX7_dayOf 124 = .ok (.ireturn, 1) := by decide +kernel
theorem dX7_dayOf_125 : decode cX7_dayOf 125 = .ok (.iload_n 3, 1) := by decide +kernel
theorem dX7_dayOf_126 : decode cX7_dayOf 126 = .ok (.ifCond .ne 10, 3) := by decide +kernel
theorem dX7_dayOf_129 : decode cX7_dayOf 129 = .ok (.aload_n 0, 1) := by decide +kernel
theorem dX7_dayOf_130 : decode cX7_dayOf 130 = .ok (.getfield 204, 3) := by decide +kernel
theorem dX7_dayOf_133 : decode cX7_dayOf 133 = .ok (.goto 31, 3) := by decide +kernel
theorem dX7_dayOf_136 : decode cX7_dayOf 136 = .ok (.iload_n 3, 1) := by decide +kernel
theorem dX7_dayOf_137 : decode cX7_dayOf 137 = .ok (.iconst 2, 1) := by decide +kernel
theorem dX7_dayOf_138 : decode cX7_dayOf 138 = .ok (.if_icmp .ne 10, 3) := by decide +kernel
theorem dX7_dayOf_141 : decode cX7_dayOf 141 = .ok (.aload_n 0, 1) := by decide +kernel
theorem dX7_dayOf_142 : decode cX7_dayOf 142 = .ok (.getfield 207, 3) := by decide +kernel
theorem dX7_dayOf_145 : decode cX7_dayOf 145 = .ok (.goto 19, 3) := by decide +kernel
theorem dX7_dayOf_148 : decode cX7_dayOf 148 = .ok (.iload_n 3, 1) := by decide +kernel
theorem dX7_dayOf_149 : decode cX7_dayOf 149 = .ok (.iconst 3, 1) := by decide +kernel
theorem dX7_dayOf_150 : decode cX7_dayOf 150 = .ok (.if_icmp .ne 10, 3) := by decide +kernel
theorem dX7_dayOf_153 : decode cX7_dayOf 153 = .ok (.aload_n 0, 1) := by decide +kernel
theorem dX7_dayOf_154 : decode cX7_dayOf 154 = .ok (.getfield 142, 3) := by decide +kernel
theorem dX7_dayOf_157 : decode cX7_dayOf 157 = .ok (.goto 7, 3) := by decide +kernel
theorem dX7_dayOf_160 : decode cX7_dayOf 160 = .ok (.aload_n 0, 1) := by decide +kernel
theorem dX7_dayOf_161 : decode cX7_dayOf 161 = .ok (.invokevirtual 222, 3) := by decide +kernel
theorem dX7_dayOf_164 : decode cX7_dayOf 164 = .ok (.ireturn, 1) := by decide +kernel
set_option maxRecDepth 20000 in
theorem ggX7_day_X7_noSheet : GoodIn wsX7_day wsX7_noSheet := goodIn_r _ [14, 15, 16, 17, 13, 18] (by decide +kernel) (by decide +kernel)
set_option maxRecDepth 20000 in
theorem gX7_day_X7_noSheet : GoodIn wsX7_day (va_wsS RX7 126 yX7_noSheet wsX7_noSheet) := goodIn_app (goodIn_of _ (by decide +kernel)) ggX7_day_X7_noSheet
set_option maxRecDepth 20000 in
theorem ggX7_day_X7_refused : GoodIn wsX7_day wsX7_refused := goodIn_r _ [22, 23, 114, 115, 116, 117, 118, 119, 120, 121, 122, 123, 124, 125, 126, 127, 128, 129, 130, 131, 132, 133, 134, 135, 136, 137, 138, 139, 140, 141, 142, 143, 144, 145, 146, 147] (by decide +kernel) (by decide +kernel)
set_option maxRecDepth 20000 in
theorem gX7_day_X7_refused : GoodIn wsX7_day (wsV RX7 130 RX7 yX7_refused wsX7_refused) := goodIn_app (goodIn_of _ (by decide +kernel)) ggX7_day_X7_refused
set_option maxRecDepth 20000 in
theorem ggX7_day_X7_in : GoodIn wsX7_day wsX7_in := goodIn_r _ [18] (by decide +kernel) (by decide +kernel)
set_option maxRecDepth 20000 in
theorem gX7_day_X7_in : GoodIn wsX7_day (va_wsS RX7 86 yX7_in wsX7_in) := goodIn_app (goodIn_of _ (by decide +kernel)) ggX7_day_X7_in
set_option maxRecDepth 20000 in
theorem ggX7_day_X7_cellsBarred : GoodIn wsX7_day wsX7_cellsBarred := goodIn_r _ [27, 28, 29, 30, 31, 32, 13, 33, 23, 34, 35, 36, 114, 115, 116, 117, 118, 119, 120, 121, 122, 123, 124, 125, 126, 127, 128, 129, 130, 131, 132, 133, 134, 135, 136, 137, 138, 139, 140, 141, 142, 143, 144, 145, 146, 147] (by decide +kernel) (by decide +kernel)
set_option maxRecDepth 20000 in
theorem gX7_day_X7_cellsBarred : GoodIn wsX7_day (wsV RX7 135 RX7 yX7_cellsBarred wsX7_cellsBarred) := goodIn_app (goodIn_of _ (by decide +kernel)) ggX7_day_X7_cellsBarred
set_option maxRecDepth 20000 in
theorem ggX7_day_X7_isAsTold : GoodIn wsX7_day wsX7_isAsTold := goodIn_r _ [39, 4, 16, 17, 13, 18] (by decide +kernel) (by decide +kernel)
set_option maxRecDepth 20000 in
theorem gX7_day_X7_isAsTold : GoodIn wsX7_day (va_wsS RX7 229 yX7_isAsTold wsX7_isAsTold) := goodIn_app (goodIn_of _ (by decide +kernel)) ggX7_day_X7_isAsTold
set_option maxRecDepth 20000 in
theorem ggX7_day_X7_dayOf : GoodIn wsX7_day wsX7_dayOf := goodIn_r _ [43, 44, 45, 7, 10, 8, 46, 47, 48, 13, 49, 50, 51, 52, 53, 54, 55, 56, 57, 58, 59, 6, 16, 17, 18, 60, 61, 62, 63, 64, 65, 66, 67, 68, 69, 70, 71, 72, 73, 74, 75, 76, 77, 78, 79, 80, 81, 82, 83, 84, 85, 86, 87, 88, 89, 90, 91, 92, 93, 94, 95, 96, 97, 98, 99, 100, 101, 102, 103, 104, 15, 105, 106, 107, 108, 109, 110, 111, 112, 113, 114, 115, 116, 117, 118, 119, 120, 121, 122, 123, 124, 125, 126, 127, 128, 129, 130, 131, 132, 133, 134, 135, 136, 137, 138, 139, 140, 141, 142, 143, 144, 145, 146, 147] (by decide +kernel) (by decide +kernel)
set_option maxRecDepth 20000 in
theorem gX7_day_X7_dayOf : GoodIn wsX7_day (wsV RX7 232 RX7 yX7_dayOf wsX7_dayOf) := goodIn_app (goodIn_of _ (by decide +kernel)) ggX7_day_X7_dayOf
theorem dX7_day_0 : decode cX7_day 0 = .ok (.iload_n 1, 1) := by decide +kernel
theorem dX7_day_1 : decode cX7_day 1 = .ok (.invokestatic 126, 3) := by decide +kernel
theorem dX7_day_4 : decode cX7_day 4 = .ok (.ifCond .eq 9, 3) := by decide +kernel
theorem dX7_day_7 : decode cX7_day 7 = .ok (.aload_n 0, 1) := by decide +kernel
theorem dX7_day_8 : decode cX7_day 8 = .ok (.iconst (-1), 1) := by decide +kernel
theorem dX7_day_9 : decode cX7_day 9 = .ok (.invokevirtual 130, 3) := by decide +kernel
theorem dX7_day_12 : decode cX7_day 12 = .ok (.ireturn, 1) := by decide +kernel
theorem dX7_day_13 : decode cX7_day 13 = .ok (.iload_n 2, 1) := by decide +kernel
theorem dX7_day_14 : decode cX7_day 14 = .ok (.i2l, 1) := by decide +kernel
theorem dX7_day_15 : decode cX7_day 15 = .ok (.lconst 0, 1) := by decide +kernel
theorem dX7_day_16 : decode cX7_day 16 = .ok (.ldc2_w 133, 3) := by decide +kernel
theorem dX7_day_19 : decode cX7_day 19 = .ok (.invokestatic 86, 3) := by decide +kernel
theorem dX7_day_22 : decode cX7_day 22 = .ok (.ifCond .eq 44, 3) := by decide +kernel
theorem dX7_day_25 : decode cX7_day 25 = .ok (.iload 4, 2) := by decide +kernel
theorem dX7_day_27 : decode cX7_day 27 = .ok (.i2l, 1) := by decide +kernel
theorem dX7_day_28 : decode cX7_day 28 = .ok (.lconst 0, 1) := by decide +kernel
theorem dX7_day_29 : decode cX7_day 29 = .ok (.ldc2_w 225, 3) := by decide +kernel
theorem dX7_day_32 : decode cX7_day 32 = .ok (.invokestatic 86, 3) := by decide +kernel
theorem dX7_day_35 : decode cX7_day 35 = .ok (.ifCond .eq 31, 3) := by decide +kernel
theorem dX7_day_38 : decode cX7_day 38 = .ok (.iload 5, 2) := by decide +kernel
theorem dX7_day_40 : decode cX7_day 40 = .ok (.i2l, 1) := by decide +kernel
theorem dX7_day_41 : decode cX7_day 41 = .ok (.lconst 0, 1) := by decide +kernel
theorem dX7_day_42 : decode cX7_day 42 = .ok (.ldc2_w 200, 3) := by decide +kernel
theorem dX7_day_45 : decode cX7_day 45 = .ok (.invokestatic 86, 3) := by decide +kernel
theorem dX7_day_48 : decode cX7_day 48 = .ok (.ifCond .ne 25, 3) := by decide +kernel
theorem dX7_day_51 : decode cX7_day 51 = .ok (.iload 5, 2) := by decide +kernel
theorem dX7_day_53 : decode cX7_day 53 = .ok (.i2l, 1) := by decide +kernel
theorem dX7_day_54 : decode cX7_day 54 = .ok (.ldc2_w 202, 3) := by decide +kernel
theorem dX7_day_57 : decode cX7_day 57 = .ok (.ldc2_w 227, 3) := by decide +kernel
theorem dX7_day_60 : decode cX7_day 60 = .ok (.invokestatic 86, 3) := by decide +kernel
theorem dX7_day_63 : decode cX7_day 63 = .ok (.ifCond .ne 10, 3) := by decide +kernel
theorem dX7_day_66 : decode cX7_day 66 = .ok (.aload_n 0, 1) := by decide +kernel
theorem dX7_day_67 : decode cX7_day 67 = .ok (.bipush (-2), 2) := by decide +kernel
theorem dX7_day_69 : decode cX7_day 69 = .ok (.invokevirtual 130, 3) := by decide +kernel
theorem dX7_day_72 : decode cX7_day 72 = .ok (.ireturn, 1) := by decide +kernel
theorem dX7_day_73 : decode cX7_day 73 = .ok (.aload_n 0, 1) := by decide +kernel
theorem dX7_day_74 : decode cX7_day 74 = .ok (.getfield 83, 3) := by decide +kernel
theorem dX7_day_77 : decode cX7_day 77 = .ok (.ifCond .ne 10, 3) := by decide +kernel
theorem dX7_day_80 : decode cX7_day 80 = .ok (.aload_n 0, 1) := by decide +kernel
theorem dX7_day_81 : decode cX7_day 81 = .ok (.bipush (-3), 2) := by decide +kernel
theorem dX7_day_83 : decode cX7_day 83 = .ok (.invokevirtual 130, 3) := by decide +kernel
theorem dX7_day_86 : decode cX7_day 86 = .ok (.ireturn, 1) := by decide +kernel
theorem dX7_day_87 : decode cX7_day 87 = .ok (.aload_n 0, 1) := by decide +kernel
theorem dX7_day_88 : decode cX7_day 88 = .ok (.iload_n 1, 1) := by decide +kernel
theorem dX7_day_89 : decode cX7_day 89 = .ok (.iload_n 2, 1) := by decide +kernel
theorem dX7_day_90 : decode cX7_day 90 = .ok (.iload_n 3, 1) := by decide +kernel
theorem dX7_day_91 : decode cX7_day 91 = .ok (.ldc2_w 133, 3) := by decide +kernel
theorem dX7_day_94 : decode cX7_day 94 = .ok (.iload 4, 2) := by decide +kernel
theorem dX7_day_96 : decode cX7_day 96 = .ok (.i2l, 1) := by decide +kernel
theorem dX7_day_97 : decode cX7_day 97 = .ok (.lmul, 1) := by decide +kernel
theorem dX7_day_98 : decode cX7_day 98 = .ok (.invokevirtual 135, 3) := by decide +kernel
theorem dX7_day_101 : decode cX7_day 101 = .ok (.istore 6, 2) := by decide +kernel
theorem dX7_day_103 : decode cX7_day 103 = .ok (.iload 6, 2) := by decide +kernel
theorem dX7_day_105 : decode cX7_day 105 = .ok (.ifCond .ge 6, 3) := by decide +kernel
theorem dX7_day_108 : decode cX7_day 108 = .ok (.iload 6, 2) := by decide +kernel
theorem dX7_day_110 : decode cX7_day 110 = .ok (.ireturn, 1) := by decide +kernel
theorem dX7_day_111 : decode cX7_day 111 = .ok (.bipush 60, 2) := by decide +kernel
theorem dX7_day_113 : decode cX7_day 113 = .ok (.iload_n 1, 1) := by decide +kernel
theorem dX7_day_114 : decode cX7_day 114 = .ok (.imul, 1) := by decide +kernel
theorem dX7_day_115 : decode cX7_day 115 = .ok (.iload_n 3, 1) := by decide +kernel
theorem dX7_day_116 : decode cX7_day 116 = .ok (.iadd, 1) := by decide +kernel
theorem dX7_day_117 : decode cX7_day 117 = .ok (.istore 7, 2) := by decide +kernel
theorem dX7_day_119 : decode cX7_day 119 = .ok (.iconst 0, 1) := by decide +kernel
theorem dX7_day_120 : decode cX7_day 120 = .ok (.istore 8, 2) := by decide +kernel
theorem dX7_day_122 : decode cX7_day 122 = .ok (.iload 8, 2) := by decide +kernel
theorem dX7_day_124 : decode cX7_day 124 = .ok (.iload 4, 2) := by decide +kernel
theorem dX7_day_126 : decode cX7_day 126 = .ok (.if_icmp .ge 48, 3) := by decide +kernel
theorem dX7_day_129 : decode cX7_day 129 = .ok (.aload_n 0, 1) := by decide +kernel
theorem dX7_day_130 : decode cX7_day 130 = .ok (.getfield 67, 3) := by decide +kernel
theorem dX7_day_133 : decode cX7_day 133 = .ok (.iload 7, 2) := by decide +kernel
theorem dX7_day_135 : decode cX7_day 135 = .ok (.iconst 2, 1) := by decide +kernel
theorem dX7_day_136 : decode cX7_day 136 = .ok (.iload 8, 2) := by decide +kernel
theorem dX7_day_138 : decode cX7_day 138 = .ok (.imul, 1) := by decide +kernel
theorem dX7_day_139 : decode cX7_day 139 = .ok (.iadd, 1) := by decide +kernel
theorem dX7_day_140 : decode cX7_day 140 = .ok (.iaload, 1) := by decide +kernel
theorem dX7_day_141 : decode cX7_day 141 = .ok (.aload_n 0, 1) := by decide +kernel
theorem dX7_day_142 : decode cX7_day 142 = .ok (.getfield 67, 3) := by decide +kernel
theorem dX7_day_145 : decode cX7_day 145 = .ok (.iload 7, 2) := by decide +kernel
theorem dX7_day_147 : decode cX7_day 147 = .ok (.iconst 2, 1) := by decide +kernel
theorem dX7_day_148 : decode cX7_day 148 = .ok (.iload 8, 2) := by decide +kernel
theorem dX7_day_150 : decode cX7_day 150 = .ok (.imul, 1) := by decide +kernel
theorem dX7_day_151 : decode cX7_day 151 = .ok (.iadd, 1) := by decide +kernel
theorem dX7_day_152 : decode cX7_day 152 = .ok (.iconst 1, 1) := by decide +kernel
theorem dX7_day_153 : decode cX7_day 153 = .ok (.iadd, 1) := by decide +kernel
theorem dX7_day_154 : decode cX7_day 154 = .ok (.iaload, 1) := by decide +kernel
theorem dX7_day_155 : decode cX7_day 155 = .ok (.invokestatic 229, 3) := by decide +kernel
theorem dX7_day_158 : decode cX7_day 158 = .ok (.ifCond .ne 10, 3) := by decide +kernel
theorem dX7_day_161 : decode cX7_day 161 = .ok (.aload_n 0, 1) := by decide +kernel
theorem dX7_day_162 : decode cX7_day 162 = .ok (.bipush (-2), 2) := by decide +kernel
theorem dX7_day_164 : decode cX7_day 164 = .ok (.invokevirtual 130, 3) := by decide +kernel
theorem dX7_day_167 : decode cX7_day 167 = .ok (.ireturn, 1) := by decide +kernel
theorem dX7_day_168 : decode cX7_day 168 = .ok (.iinc 8 1, 3) := by decide +kernel
theorem dX7_day_171 : decode cX7_day 171 = .ok (.goto (-49), 3) := by decide +kernel
theorem dX7_day_174 : decode cX7_day 174 = .ok (.aload_n 0, 1) := by decide +kernel
theorem dX7_day_175 : decode cX7_day 175 = .ok (.getfield 142, 3) := by decide +kernel
theorem dX7_day_178 : decode cX7_day 178 = .ok (.istore 8, 2) := by decide +kernel
theorem dX7_day_180 : decode cX7_day 180 = .ok (.iconst 0, 1) := by decide +kernel
theorem dX7_day_181 : decode cX7_day 181 = .ok (.istore 9, 2) := by decide +kernel
theorem dX7_day_183 : decode cX7_day 183 = .ok (.iload 9, 2) := by decide +kernel
theorem dX7_day_185 : decode cX7_day 185 = .ok (.aload_n 0, 1) := by decide +kernel
theorem dX7_day_186 : decode cX7_day 186 = .ok (.getfield 83, 3) := by decide +kernel
theorem dX7_day_189 : decode cX7_day 189 = .ok (.if_icmp .ge 23, 3) := by decide +kernel
theorem dX7_day_192 : decode cX7_day 192 = .ok (.aload_n 0, 1) := by decide +kernel
theorem dX7_day_193 : decode cX7_day 193 = .ok (.getfield 49, 3) := by decide +kernel
theorem dX7_day_196 : decode cX7_day 196 = .ok (.iload 9, 2) := by decide +kernel
theorem dX7_day_198 : decode cX7_day 198 = .ok (.aload_n 0, 1) := by decide +kernel
theorem dX7_day_199 : decode cX7_day 199 = .ok (.getfield 13, 3) := by decide +kernel
theorem dX7_day_202 : decode cX7_day 202 = .ok (.iload 9, 2) := by decide +kernel
theorem dX7_day_204 : decode cX7_day 204 = .ok (.iaload, 1) := by decide +kernel
theorem dX7_day_205 : decode cX7_day 205 = .ok (.iastore, 1) := by decide +kernel
theorem dX7_day_206 : decode cX7_day 206 = .ok (.iinc 9 1, 3) := by decide +kernel
theorem dX7_day_209 : decode cX7_day 209 = .ok (.goto (-26), 3) := by decide +kernel
theorem dX7_day_212 : decode cX7_day 212 = .ok (.aload_n 0, 1) := by decide +kernel
theorem dX7_day_213 : decode cX7_day 213 = .ok (.iload 7, 2) := by decide +kernel
theorem dX7_day_215 : decode cX7_day 215 = .ok (.iload 4, 2) := by decide +kernel
theorem dX7_day_217 : decode cX7_day 217 = .ok (.iload 5, 2) := by decide +kernel
theorem dX7_day_219 : decode cX7_day 219 = .ok (.invokevirtual 232, 3) := by decide +kernel
theorem dX7_day_222 : decode cX7_day 222 = .ok (.istore 9, 2) := by decide +kernel
theorem dX7_day_224 : decode cX7_day 224 = .ok (.aload_n 0, 1) := by decide +kernel
theorem dX7_day_225 : decode cX7_day 225 = .ok (.iload 8, 2) := by decide +kernel
theorem dX7_day_227 : decode cX7_day 227 = .ok (.putfield 142, 3) := by decide +kernel
theorem dX7_day_230 : decode cX7_day 230 = .ok (.iconst 0, 1) := by decide +kernel
theorem dX7_day_231 : decode cX7_day 231 = .ok (.istore 10, 2) := by decide +kernel
theorem dX7_day_233 : decode cX7_day 233 = .ok (.iload 10, 2) := by decide +kernel
theorem dX7_day_235 : decode cX7_day 235 = .ok (.aload_n 0, 1) := by decide +kernel
theorem dX7_day_236 : decode cX7_day 236 = .ok (.getfield 83, 3) := by decide +kernel
theorem dX7_day_239 : decode cX7_day 239 = .ok (.if_icmp .ge 23, 3) := by decide +kernel
theorem dX7_day_242 : decode cX7_day 242 = .ok (.aload_n 0, 1) := by decide +kernel
theorem dX7_day_243 : decode cX7_day 243 = .ok (.getfield 13, 3) := by decide +kernel
theorem dX7_day_246 : decode cX7_day 246 = .ok (.iload 10, 2) := by decide +kernel
theorem dX7_day_248 : decode cX7_day 248 = .ok (.aload_n 0, 1) := by decide +kernel
theorem dX7_day_249 : decode cX7_day 249 = .ok (.getfield 49, 3) := by decide +kernel
theorem dX7_day_252 : decode cX7_day 252 = .ok (.iload 10, 2) := by decide +kernel
theorem dX7_day_254 : decode cX7_day 254 = .ok (.iaload, 1) := by decide +kernel
theorem dX7_day_255 : decode cX7_day 255 = .ok (.iastore, 1) := by decide +kernel
theorem dX7_day_256 : decode cX7_day 256 = .ok (.iinc 10 1, 3) := by decide +kernel
theorem dX7_day_259 : decode cX7_day 259 = .ok (.goto (-26), 3) := by decide +kernel
theorem dX7_day_262 : decode cX7_day 262 = .ok (.aload_n 0, 1) := by decide +kernel
theorem dX7_day_263 : decode cX7_day 263 = .ok (.iload 9, 2) := by decide +kernel
theorem dX7_day_265 : decode cX7_day 265 = .ok (.invokevirtual 130, 3) := by decide +kernel
theorem dX7_day_268 : decode cX7_day 268 = .ok (.ireturn, 1) := by decide +kernel
set_option maxRecDepth 20000 in
theorem ggX7_witness_X7_noFunction : GoodIn wsX7_witness wsX7_noFunction := goodIn_r _ [5, 6, 7, 8, 4, 9, 55, 56, 57, 58, 59, 60, 61, 62, 63, 64, 65, 66, 67, 68, 69, 70, 71, 72, 73, 74, 75, 76, 77, 78, 79, 80, 81, 82, 83, 84, 85, 86, 87, 88] (by decide +kernel) (by decide +kernel)
set_option maxRecDepth 20000 in
theorem gX7_witness_X7_noFunction : GoodIn wsX7_witness (wsV RX7 183 RX7 yX7_noFunction wsX7_noFunction) := goodIn_app (goodIn_of _ (by decide +kernel)) ggX7_witness_X7_noFunction
set_option maxRecDepth 20000 in
theorem ggX7_witness_X7_isAct : GoodIn wsX7_witness wsX7_isAct := goodIn_r _ [12, 13, 7, 8, 4, 9] (by decide +kernel) (by decide +kernel)
set_option maxRecDepth 20000 in
theorem gX7_witness_X7_isAct : GoodIn wsX7_witness (va_wsS RX7 195 yX7_isAct wsX7_isAct) := goodIn_app (goodIn_of _ (by decide +kernel)) ggX7_witness_X7_isAct
set_option maxRecDepth 20000 in
theorem ggX7_witness_X7_runsBy : GoodIn wsX7_witness wsX7_runsBy := goodIn_r _ [17, 18, 19, 20, 21, 4, 22, 23, 24, 25, 26, 27, 28, 29, 30, 31, 32, 33, 34, 35, 36, 37, 38, 39, 40, 41, 42, 43, 44, 45, 46, 47, 48, 49, 50, 51, 52, 53, 54, 55, 56, 57, 58, 59, 60, 61, 62, 63, 64, 65, 66, 67, 68, 69, 70, 71, 72, 73, 74, 75, 76, 77, 78, 79, 80, 81, 82, 83, 84, 85, 86, 87, 88] (by decide +kernel) (by decide +kernel)
set_option maxRecDepth 20000 in
theorem gX7_witness_X7_runsBy : GoodIn wsX7_witness (wsV RX7 180 RX7 yX7_runsBy wsX7_runsBy) := goodIn_app (goodIn_of _ (by decide +kernel)) ggX7_witness_X7_runsBy
theorem dX7_witness_0 : decode cX7_witness 0 = .ok (.aload_n 0, 1) := by decide +kernel
theorem dX7_witness_1 : decode cX7_witness 1 = .ok (.iload_n 1, 1) := by decide +kernel
theorem dX7_witness_2 : decode cX7_witness 2 = .ok (.invokevirtual 183, 3) := by decide +kernel
theorem dX7_witness_5 : decode cX7_witness 5 = .ok (.ifCond .eq 5, 3) := by decide +kernel
theorem dX7_witness_8 : decode cX7_witness 8 = .ok (.iconst (-1), 1) := by decide +kernel
theorem dX7_witness_9 : decode cX7_witness 9 = .ok (.ireturn, 1) := by decide +kernel
theorem dX7_witness_10 : decode cX7_witness 10 = .ok (.iload_n 2, 1) := by decide +kernel
theorem dX7_witness_11 : decode cX7_witness 11 = .ok (.invokestatic 195, 3) := by decide +kernel
theorem dX7_witness_14 : decode cX7_witness 14 = .ok (.ifCond .ne 6, 3) := by decide +kernel
theorem dX7_witness_17 : decode cX7_witness 17 = .ok (.bipush (-2), 2) := by decide +kernel
theorem dX7_witness_19 : decode cX7_witness 19 = .ok (.ireturn, 1) := by decide +kernel
theorem dX7_witness_20 : decode cX7_witness 20 = .ok (.bipush (-9), 2) := by decide +kernel
theorem dX7_witness_22 : decode cX7_witness 22 = .ok (.istore_n 3, 1) := by decide +kernel
theorem dX7_witness_23 : decode cX7_witness 23 = .ok (.bipush 15, 2) := by decide +kernel
theorem dX7_witness_25 : decode cX7_witness 25 = .ok (.istore 4, 2) := by decide +kernel
theorem dX7_witness_27 : decode cX7_witness 27 = .ok (.iload 4, 2) := by decide +kernel
theorem dX7_witness_29 : decode cX7_witness 29 = .ok (.ifCond .lt 27, 3) := by decide +kernel
theorem dX7_witness_32 : decode cX7_witness 32 = .ok (.aload_n 0, 1) := by decide +kernel
theorem dX7_witness_33 : decode cX7_witness 33 = .ok (.iload_n 1, 1) := by decide +kernel
theorem dX7_witness_34 : decode cX7_witness 34 = .ok (.iload 4, 2) := by decide +kernel
theorem dX7_witness_36 : decode cX7_witness 36 = .ok (.invokevirtual 180, 3) := by decide +kernel
theorem dX7_witness_39 : decode cX7_witness 39 = .ok (.iload_n 2, 1) := by decide +kernel
theorem dX7_witness_40 : decode cX7_witness 40 = .ok (.if_icmp .ne 8, 3) := by decide +kernel
theorem dX7_witness_43 : decode cX7_witness 43 = .ok (.iload 4, 2) := by decide +kernel
theorem dX7_witness_45 : decode cX7_witness 45 = .ok (.goto 4, 3) := by decide +kernel
theorem dX7_witness_48 : decode cX7_witness 48 = .ok (.iload_n 3, 1) := by decide +kernel
theorem dX7_witness_49 : decode cX7_witness 49 = .ok (.istore_n 3, 1) := by decide +kernel
theorem dX7_witness_50 : decode cX7_witness 50 = .ok (.iinc 4 (-1), 3) := by decide +kernel
theorem dX7_witness_53 : decode cX7_witness 53 = .ok (.goto (-26), 3) := by decide +kernel
theorem dX7_witness_56 : decode cX7_witness 56 = .ok (.iload_n 3, 1) := by decide +kernel
theorem dX7_witness_57 : decode cX7_witness 57 = .ok (.ireturn, 1) := by decide +kernel
set_option maxRecDepth 20000 in
theorem ggX7_free_X7_noFunction : GoodIn wsX7_free wsX7_noFunction := goodIn_r _ [5, 6, 7, 8, 4, 9, 51, 52, 53, 54, 55, 56, 57, 58, 59, 60, 61, 62, 63, 64, 65, 66, 67, 68, 69, 70, 71, 72, 73, 74, 75, 76, 77, 78, 79, 80, 81, 82, 83, 84] (by decide +kernel) (by decide +kernel)
set_option maxRecDepth 20000 in
theorem gX7_free_X7_noFunction : GoodIn wsX7_free (wsV RX7 183 RX7 yX7_noFunction wsX7_noFunction) := goodIn_app (goodIn_of _ (by decide +kernel)) ggX7_free_X7_noFunction
set_option maxRecDepth 20000 in
theorem ggX7_free_X7_runsBy : GoodIn wsX7_free wsX7_runsBy := goodIn_r _ [13, 14, 15, 16, 17, 4, 18, 19, 20, 21, 22, 23, 24, 25, 26, 27, 28, 29, 30, 31, 32, 33, 34, 35, 36, 37, 38, 39, 40, 41, 42, 43, 44, 45, 46, 47, 48, 49, 50, 51, 52, 53, 54, 55, 56, 57, 58, 59, 60, 61, 62, 63, 64, 65, 66, 67, 68, 69, 70, 71, 72, 73, 74, 75, 76, 77, 78, 79, 80, 81, 82, 83, 84] (by decide +kernel) (by decide +kernel)
set_option maxRecDepth 20000 in
theorem gX7_free_X7_runsBy : GoodIn wsX7_free (wsV RX7 180 RX7 yX7_runsBy wsX7_runsBy) := goodIn_app (goodIn_of _ (by decide +kernel)) ggX7_free_X7_runsBy
theorem dX7_free_0 : decode cX7_free 0 = .ok (.aload_n 0, 1) := by decide +kernel
theorem dX7_free_1 : decode cX7_free 1 = .ok (.iload_n 1, 1) := by decide +kernel
theorem dX7_free_2 : decode cX7_free 2 = .ok (.invokevirtual 183, 3) := by decide +kernel
theorem dX7_free_5 : decode cX7_free 5 = .ok (.ifCond .ne 11, 3) := by decide +kernel
theorem dX7_free_8 : decode cX7_free 8 = .ok (.aload_n 0, 1) := by decide +kernel
theorem dX7_free_9 : decode cX7_free 9 = .ok (.iload_n 2, 1) := by decide +kernel
theorem dX7_free_10 : decode cX7_free 10 = .ok (.invokevirtual 183, 3) := by decide +kernel
theorem dX7_free_13 : decode cX7_free 13 = .ok (.ifCond .eq 5, 3) := by decide +kernel
theorem dX7_free_16 : decode cX7_free 16 = .ok (.iconst (-1), 1) := by decide +kernel
theorem dX7_free_17 : decode cX7_free 17 = .ok (.ireturn, 1) := by decide +kernel
theorem dX7_free_18 : decode cX7_free 18 = .ok (.iconst 1, 1) := by decide +kernel
theorem dX7_free_19 : decode cX7_free 19 = .ok (.istore_n 3, 1) := by decide +kernel
theorem dX7_free_20 : decode cX7_free 20 = .ok (.iconst 0, 1) := by decide +kernel
theorem dX7_free_21 : decode cX7_free 21 = .ok (.istore 4, 2) := by decide +kernel
theorem dX7_free_23 : decode cX7_free 23 = .ok (.iload 4, 2) := by decide +kernel
theorem dX7_free_25 : decode cX7_free 25 = .ok (.bipush 16, 2) := by decide +kernel
theorem dX7_free_27 : decode cX7_free 27 = .ok (.if_icmp .ge 54, 3) := by decide +kernel
theorem dX7_free_30 : decode cX7_free 30 = .ok (.aload_n 0, 1) := by decide +kernel
theorem dX7_free_31 : decode cX7_free 31 = .ok (.iload_n 1, 1) := by decide +kernel
theorem dX7_free_32 : decode cX7_free 32 = .ok (.iload 4, 2) := by decide +kernel
theorem dX7_free_34 : decode cX7_free 34 = .ok (.invokevirtual 180, 3) := by decide +kernel
theorem dX7_free_37 : decode cX7_free 37 = .ok (.istore 5, 2) := by decide +kernel
theorem dX7_free_39 : decode cX7_free 39 = .ok (.aload_n 0, 1) := by decide +kernel
theorem dX7_free_40 : decode cX7_free 40 = .ok (.iload_n 2, 1) := by decide +kernel
theorem dX7_free_41 : decode cX7_free 41 = .ok (.iload 4, 2) := by decide +kernel
theorem dX7_free_43 : decode cX7_free 43 = .ok (.invokevirtual 180, 3) := by decide +kernel
theorem dX7_free_46 : decode cX7_free 46 = .ok (.istore 6, 2) := by decide +kernel
theorem dX7_free_48 : decode cX7_free 48 = .ok (.iload_n 3, 1) := by decide +kernel
theorem dX7_free_49 : decode cX7_free 49 = .ok (.ifCond .eq 24, 3) := by decide +kernel
theorem dX7_free_52 : decode cX7_free 52 = .ok (.iload 5, 2) := by decide +kernel
theorem dX7_free_54 : decode cX7_free 54 = .ok (.ifCond .lt 15, 3) := by decide +kernel
theorem dX7_free_57 : decode cX7_free 57 = .ok (.iload 6, 2) := by decide +kernel
theorem dX7_free_59 : decode cX7_free 59 = .ok (.ifCond .lt 10, 3) := by decide +kernel
theorem dX7_free_62 : decode cX7_free 62 = .ok (.iload 5, 2) := by decide +kernel
theorem dX7_free_64 : decode cX7_free 64 = .ok (.iload 6, 2) := by decide +kernel
theorem dX7_free_66 : decode cX7_free 66 = .ok (.if_icmp .ne 7, 3) := by decide +kernel
theorem dX7_free_69 : decode cX7_free 69 = .ok (.iconst 1, 1) := by decide +kernel
theorem dX7_free_70 : decode cX7_free 70 = .ok (.goto 4, 3) := by decide +kernel
theorem dX7_free_73 : decode cX7_free 73 = .ok (.iconst 0, 1) := by decide +kernel
theorem dX7_free_74 : decode cX7_free 74 = .ok (.istore_n 3, 1) := by decide +kernel
theorem dX7_free_75 : decode cX7_free 75 = .ok (.iinc 4 1, 3) := by decide +kernel
theorem dX7_free_78 : decode cX7_free 78 = .ok (.goto (-55), 3) := by decide +kernel
theorem dX7_free_81 : decode cX7_free 81 = .ok (.iload_n 3, 1) := by decide +kernel
theorem dX7_free_82 : decode cX7_free 82 = .ok (.ifCond .eq 7, 3) := by decide +kernel
theorem dX7_free_85 : decode cX7_free 85 = .ok (.iconst 1, 1) := by decide +kernel
theorem dX7_free_86 : decode cX7_free 86 = .ok (.goto 4, 3) := by decide +kernel
theorem dX7_free_89 : decode cX7_free 89 = .ok (.iconst 0, 1) := by decide +kernel
theorem dX7_free_90 : decode cX7_free 90 = .ok (.ireturn, 1) := by decide +kernel
theorem dX7_plugsBy_0 : decode cX7_plugsBy 0 = .ok (.iload_n 1, 1) := by decide +kernel
theorem dX7_plugsBy_1 : decode cX7_plugsBy 1 = .ok (.istore_n 2, 1) := by decide +kernel
theorem dX7_plugsBy_2 : decode cX7_plugsBy 2 = .ok (.iconst 0, 1) := by decide +kernel
theorem dX7_plugsBy_3 : decode cX7_plugsBy 3 = .ok (.istore_n 3, 1) := by decide +kernel
theorem dX7_plugsBy_4 : decode cX7_plugsBy 4 = .ok (.iconst 0, 1) := by decide +kernel
theorem dX7_plugsBy_5 : decode cX7_plugsBy 5 = .ok (.istore 4, 2) := by decide +kernel
theorem dX7_plugsBy_7 : decode cX7_plugsBy 7 = .ok (.iload 4, 2) := by decide +kernel
theorem dX7_plugsBy_9 : decode cX7_plugsBy 9 = .ok (.aload_n 0, 1) := by decide +kernel
theorem dX7_plugsBy_10 : decode cX7_plugsBy 10 = .ok (.getfield 83, 3) := by decide +kernel
theorem dX7_plugsBy_13 : decode cX7_plugsBy 13 = .ok (.if_icmp .ge 80, 3) := by decide +kernel
theorem dX7_plugsBy_16 : decode cX7_plugsBy 16 = .ok (.iload_n 2, 1) := by decide +kernel
theorem dX7_plugsBy_17 : decode cX7_plugsBy 17 = .ok (.iconst 5, 1) := by decide +kernel
theorem dX7_plugsBy_18 : decode cX7_plugsBy 18 = .ok (.irem, 1) := by decide +kernel
theorem dX7_plugsBy_19 : decode cX7_plugsBy 19 = .ok (.istore 5, 2) := by decide +kernel
theorem dX7_plugsBy_21 : decode cX7_plugsBy 21 = .ok (.iload_n 2, 1) := by decide +kernel
theorem dX7_plugsBy_22 : decode cX7_plugsBy 22 = .ok (.iconst 5, 1) := by decide +kernel
theorem dX7_plugsBy_23 : decode cX7_plugsBy 23 = .ok (.idiv, 1) := by decide +kernel
theorem dX7_plugsBy_24 : decode cX7_plugsBy 24 = .ok (.istore_n 2, 1) := by decide +kernel
theorem dX7_plugsBy_25 : decode cX7_plugsBy 25 = .ok (.aload_n 0, 1) := by decide +kernel
theorem dX7_plugsBy_26 : decode cX7_plugsBy 26 = .ok (.getfield 7, 3) := by decide +kernel
theorem dX7_plugsBy_29 : decode cX7_plugsBy 29 = .ok (.iload 4, 2) := by decide +kernel
theorem dX7_plugsBy_31 : decode cX7_plugsBy 31 = .ok (.iload 5, 2) := by decide +kernel
theorem dX7_plugsBy_33 : decode cX7_plugsBy 33 = .ok (.ifCond .ne 13, 3) := by decide +kernel
theorem dX7_plugsBy_36 : decode cX7_plugsBy 36 = .ok (.aload_n 0, 1) := by decide +kernel
theorem dX7_plugsBy_37 : decode cX7_plugsBy 37 = .ok (.getfield 52, 3) := by decide +kernel
theorem dX7_plugsBy_40 : decode cX7_plugsBy 40 = .ok (.iload 4, 2) := by decide +kernel
theorem dX7_plugsBy_42 : decode cX7_plugsBy 42 = .ok (.iaload, 1) := by decide +kernel
theorem dX7_plugsBy_43 : decode cX7_plugsBy 43 = .ok (.goto 4, 3) := by decide +kernel
theorem dX7_plugsBy_46 : decode cX7_plugsBy 46 = .ok (.iconst 2, 1) := by decide +kernel
theorem dX7_plugsBy_47 : decode cX7_plugsBy 47 = .ok (.iastore, 1) := by decide +kernel
theorem dX7_plugsBy_48 : decode cX7_plugsBy 48 = .ok (.aload_n 0, 1) := by decide +kernel
theorem dX7_plugsBy_49 : decode cX7_plugsBy 49 = .ok (.getfield 13, 3) := by decide +kernel
theorem dX7_plugsBy_52 : decode cX7_plugsBy 52 = .ok (.iload 4, 2) := by decide +kernel
theorem dX7_plugsBy_54 : decode cX7_plugsBy 54 = .ok (.iload 5, 2) := by decide +kernel
theorem dX7_plugsBy_56 : decode cX7_plugsBy 56 = .ok (.ifCond .ne 13, 3) := by decide +kernel
theorem dX7_plugsBy_59 : decode cX7_plugsBy 59 = .ok (.aload_n 0, 1) := by decide +kernel
theorem dX7_plugsBy_60 : decode cX7_plugsBy 60 = .ok (.getfield 49, 3) := by decide +kernel
theorem dX7_plugsBy_63 : decode cX7_plugsBy 63 = .ok (.iload 4, 2) := by decide +kernel
theorem dX7_plugsBy_65 : decode cX7_plugsBy 65 = .ok (.iaload, 1) := by decide +kernel
theorem dX7_plugsBy_66 : decode cX7_plugsBy 66 = .ok (.goto 7, 3) := by decide +kernel
theorem dX7_plugsBy_69 : decode cX7_plugsBy 69 = .ok (.iload 5, 2) := by decide +kernel
theorem dX7_plugsBy_71 : decode cX7_plugsBy 71 = .ok (.iconst 1, 1) := by decide +kernel
theorem dX7_plugsBy_72 : decode cX7_plugsBy 72 = .ok (.isub, 1) := by decide +kernel
theorem dX7_plugsBy_73 : decode cX7_plugsBy 73 = .ok (.iastore, 1) := by decide +kernel
theorem dX7_plugsBy_74 : decode cX7_plugsBy 74 = .ok (.iload_n 3, 1) := by decide +kernel
theorem dX7_plugsBy_75 : decode cX7_plugsBy 75 = .ok (.iload 5, 2) := by decide +kernel
theorem dX7_plugsBy_77 : decode cX7_plugsBy 77 = .ok (.ifCond .ne 7, 3) := by decide +kernel
theorem dX7_plugsBy_80 : decode cX7_plugsBy 80 = .ok (.iconst 0, 1) := by decide +kernel
theorem dX7_plugsBy_81 : decode cX7_plugsBy 81 = .ok (.goto 4, 3) := by decide +kernel
theorem dX7_plugsBy_84 : decode cX7_plugsBy 84 = .ok (.iconst 1, 1) := by decide +kernel
theorem dX7_plugsBy_85 : decode cX7_plugsBy 85 = .ok (.iadd, 1) := by decide +kernel
theorem dX7_plugsBy_86 : decode cX7_plugsBy 86 = .ok (.istore_n 3, 1) := by decide +kernel
theorem dX7_plugsBy_87 : decode cX7_plugsBy 87 = .ok (.iinc 4 1, 3) := by decide +kernel
theorem dX7_plugsBy_90 : decode cX7_plugsBy 90 = .ok (.goto (-83), 3) := by decide +kernel
theorem dX7_plugsBy_93 : decode cX7_plugsBy 93 = .ok (.iload_n 3, 1) := by decide +kernel
theorem dX7_plugsBy_94 : decode cX7_plugsBy 94 = .ok (.ireturn, 1) := by decide +kernel
set_option maxRecDepth 20000 in
theorem ggX7_plugs_X7_noFunction : GoodIn wsX7_plugs wsX7_noFunction := goodIn_r _ [10, 1, 11, 12, 9, 13, 53, 54, 55, 56, 57, 58, 59, 60, 61, 62, 63, 64, 65, 66, 67, 68, 69, 70, 71, 72, 73, 74, 75, 76, 77, 78, 79, 80, 81, 82, 83, 84, 85, 86] (by decide +kernel) (by decide +kernel)
set_option maxRecDepth 20000 in
theorem gX7_plugs_X7_noFunction : GoodIn wsX7_plugs (wsV RX7 183 RX7 yX7_noFunction wsX7_noFunction) := goodIn_app (goodIn_of _ (by decide +kernel)) ggX7_plugs_X7_noFunction
set_option maxRecDepth 20000 in
theorem ggX7_plugs_X7_plugsBy : GoodIn wsX7_plugs wsX7_plugsBy := goodIn_r _ [17, 1, 3, 2, 5, 4, 53, 54, 55, 56, 57, 58, 59, 60, 61, 62, 63, 64, 65, 66, 67, 68, 69, 70, 71, 72, 73, 74, 75, 76, 77, 78, 79, 80, 81, 82, 83, 84, 85, 86] (by decide +kernel) (by decide +kernel)
set_option maxRecDepth 20000 in
theorem gX7_plugs_X7_plugsBy : GoodIn wsX7_plugs (wsV RX7 236 RX7 yX7_plugsBy wsX7_plugsBy) := goodIn_app (goodIn_of _ (by decide +kernel)) ggX7_plugs_X7_plugsBy
set_option maxRecDepth 20000 in
theorem ggX7_plugs_X7_runs : GoodIn wsX7_plugs wsX7_runs := goodIn_r _ [21, 22, 23, 24, 25, 26, 27, 28, 9, 29, 30, 31, 32, 33, 34, 35, 36, 37, 38, 39, 40, 41, 42, 43, 44, 45, 46, 47, 48, 49, 50, 51, 52, 3, 5, 53, 54, 55, 56, 57, 58, 59, 60, 61, 62, 63, 64, 65, 66, 67, 68, 69, 70, 71, 72, 73, 74, 75, 76, 77, 78, 79, 80, 81, 82, 83, 84, 85, 86] (by decide +kernel) (by decide +kernel)
set_option maxRecDepth 20000 in
theorem gX7_plugs_X7_runs : GoodIn wsX7_plugs (wsV RX7 177 RX7 yX7_runs wsX7_runs) := goodIn_app (goodIn_of _ (by decide +kernel)) ggX7_plugs_X7_runs
theorem dX7_plugs_0 : decode cX7_plugs 0 = .ok (.aload_n 0, 1) := by decide +kernel
theorem dX7_plugs_1 : decode cX7_plugs 1 = .ok (.iload_n 1, 1) := by decide +kernel
theorem dX7_plugs_2 : decode cX7_plugs 2 = .ok (.invokevirtual 183, 3) := by decide +kernel
theorem dX7_plugs_5 : decode cX7_plugs 5 = .ok (.ifCond .eq 5, 3) := by decide +kernel
theorem dX7_plugs_8 : decode cX7_plugs 8 = .ok (.iconst (-1), 1) := by decide +kernel
theorem dX7_plugs_9 : decode cX7_plugs 9 = .ok (.ireturn, 1) := by decide +kernel
theorem dX7_plugs_10 : decode cX7_plugs 10 = .ok (.iconst 1, 1) := by decide +kernel
theorem dX7_plugs_11 : decode cX7_plugs 11 = .ok (.istore_n 2, 1) := by decide +kernel
theorem dX7_plugs_12 : decode cX7_plugs 12 = .ok (.iconst 0, 1) := by decide +kernel
theorem dX7_plugs_13 : decode cX7_plugs 13 = .ok (.istore_n 3, 1) := by decide +kernel
theorem dX7_plugs_14 : decode cX7_plugs 14 = .ok (.iload_n 3, 1) := by decide +kernel
theorem dX7_plugs_15 : decode cX7_plugs 15 = .ok (.aload_n 0, 1) := by decide +kernel
theorem dX7_plugs_16 : decode cX7_plugs 16 = .ok (.getfield 83, 3) := by decide +kernel
theorem dX7_plugs_19 : decode cX7_plugs 19 = .ok (.if_icmp .ge 37, 3) := by decide +kernel
theorem dX7_plugs_22 : decode cX7_plugs 22 = .ok (.aload_n 0, 1) := by decide +kernel
theorem dX7_plugs_23 : decode cX7_plugs 23 = .ok (.getfield 52, 3) := by decide +kernel
theorem dX7_plugs_26 : decode cX7_plugs 26 = .ok (.iload_n 3, 1) := by decide +kernel
theorem dX7_plugs_27 : decode cX7_plugs 27 = .ok (.aload_n 0, 1) := by decide +kernel
theorem dX7_plugs_28 : decode cX7_plugs 28 = .ok (.getfield 7, 3) := by decide +kernel
theorem dX7_plugs_31 : decode cX7_plugs 31 = .ok (.iload_n 3, 1) := by decide +kernel
theorem dX7_plugs_32 : decode cX7_plugs 32 = .ok (.iaload, 1) := by decide +kernel
theorem dX7_plugs_33 : decode cX7_plugs 33 = .ok (.iastore, 1) := by decide +kernel
theorem dX7_plugs_34 : decode cX7_plugs 34 = .ok (.aload_n 0, 1) := by decide +kernel
theorem dX7_plugs_35 : decode cX7_plugs 35 = .ok (.getfield 49, 3) := by decide +kernel
theorem dX7_plugs_38 : decode cX7_plugs 38 = .ok (.iload_n 3, 1) := by decide +kernel
theorem dX7_plugs_39 : decode cX7_plugs 39 = .ok (.aload_n 0, 1) := by decide +kernel
theorem dX7_plugs_40 : decode cX7_plugs 40 = .ok (.getfield 13, 3) := by decide +kernel
theorem dX7_plugs_43 : decode cX7_plugs 43 = .ok (.iload_n 3, 1) := by decide +kernel
theorem dX7_plugs_44 : decode cX7_plugs 44 = .ok (.iaload, 1) := by decide +kernel
theorem dX7_plugs_45 : decode cX7_plugs 45 = .ok (.iastore, 1) := by decide +kernel
theorem dX7_plugs_46 : decode cX7_plugs 46 = .ok (.iload_n 2, 1) := by decide +kernel
theorem dX7_plugs_47 : decode cX7_plugs 47 = .ok (.iconst 5, 1) := by decide +kernel
theorem dX7_plugs_48 : decode cX7_plugs 48 = .ok (.imul, 1) := by decide +kernel
theorem dX7_plugs_49 : decode cX7_plugs 49 = .ok (.istore_n 2, 1) := by decide +kernel
theorem dX7_plugs_50 : decode cX7_plugs 50 = .ok (.iinc 3 1, 3) := by decide +kernel
theorem dX7_plugs_53 : decode cX7_plugs 53 = .ok (.goto (-39), 3) := by decide +kernel
theorem dX7_plugs_56 : decode cX7_plugs 56 = .ok (.bipush (-9), 2) := by decide +kernel
theorem dX7_plugs_58 : decode cX7_plugs 58 = .ok (.istore_n 3, 1) := by decide +kernel
theorem dX7_plugs_59 : decode cX7_plugs 59 = .ok (.iconst 0, 1) := by decide +kernel
theorem dX7_plugs_60 : decode cX7_plugs 60 = .ok (.istore 4, 2) := by decide +kernel
theorem dX7_plugs_62 : decode cX7_plugs 62 = .ok (.iload 4, 2) := by decide +kernel
theorem dX7_plugs_64 : decode cX7_plugs 64 = .ok (.iload_n 2, 1) := by decide +kernel
theorem dX7_plugs_65 : decode cX7_plugs 65 = .ok (.if_icmp .ge 54, 3) := by decide +kernel
theorem dX7_plugs_68 : decode cX7_plugs 68 = .ok (.aload_n 0, 1) := by decide +kernel
theorem dX7_plugs_69 : decode cX7_plugs 69 = .ok (.iload 4, 2) := by decide +kernel
theorem dX7_plugs_71 : decode cX7_plugs 71 = .ok (.invokevirtual 236, 3) := by decide +kernel
theorem dX7_plugs_74 : decode cX7_plugs 74 = .ok (.istore 5, 2) := by decide +kernel
theorem dX7_plugs_76 : decode cX7_plugs 76 = .ok (.iload_n 3, 1) := by decide +kernel
theorem dX7_plugs_77 : decode cX7_plugs 77 = .ok (.ifCond .lt 9, 3) := by decide +kernel
theorem dX7_plugs_80 : decode cX7_plugs 80 = .ok (.iload 5, 2) := by decide +kernel
theorem dX7_plugs_82 : decode cX7_plugs 82 = .ok (.iload_n 3, 1) := by decide +kernel
theorem dX7_plugs_83 : decode cX7_plugs 83 = .ok (.if_icmp .ge 7, 3) := by decide +kernel
theorem dX7_plugs_86 : decode cX7_plugs 86 = .ok (.iconst 1, 1) := by decide +kernel
theorem dX7_plugs_87 : decode cX7_plugs 87 = .ok (.goto 4, 3) := by decide +kernel
theorem dX7_plugs_90 : decode cX7_plugs 90 = .ok (.iconst 0, 1) := by decide +kernel
theorem dX7_plugs_91 : decode cX7_plugs 91 = .ok (.istore 6, 2) := by decide +kernel
theorem dX7_plugs_93 : decode cX7_plugs 93 = .ok (.iload 6, 2) := by decide +kernel
theorem dX7_plugs_95 : decode cX7_plugs 95 = .ok (.ifCond .eq 16, 3) := by decide +kernel
theorem dX7_plugs_98 : decode cX7_plugs 98 = .ok (.aload_n 0, 1) := by decide +kernel
theorem dX7_plugs_99 : decode cX7_plugs 99 = .ok (.iload_n 1, 1) := by decide +kernel
theorem dX7_plugs_100 : decode cX7_plugs 100 = .ok (.invokevirtual 177, 3) := by decide +kernel
theorem dX7_plugs_103 : decode cX7_plugs 103 = .ok (.ifCond .ge 8, 3) := by decide +kernel
theorem dX7_plugs_106 : decode cX7_plugs 106 = .ok (.iload 5, 2) := by decide +kernel
theorem dX7_plugs_108 : decode cX7_plugs 108 = .ok (.goto 4, 3) := by decide +kernel
theorem dX7_plugs_111 : decode cX7_plugs 111 = .ok (.iload_n 3, 1) := by decide +kernel
theorem dX7_plugs_112 : decode cX7_plugs 112 = .ok (.istore_n 3, 1) := by decide +kernel
theorem dX7_plugs_113 : decode cX7_plugs 113 = .ok (.iinc 4 1, 3) := by decide +kernel
theorem dX7_plugs_116 : decode cX7_plugs 116 = .ok (.goto (-54), 3) := by decide +kernel
theorem dX7_plugs_119 : decode cX7_plugs 119 = .ok (.iconst 0, 1) := by decide +kernel
theorem dX7_plugs_120 : decode cX7_plugs 120 = .ok (.istore 4, 2) := by decide +kernel
theorem dX7_plugs_122 : decode cX7_plugs 122 = .ok (.iload 4, 2) := by decide +kernel
theorem dX7_plugs_124 : decode cX7_plugs 124 = .ok (.aload_n 0, 1) := by decide +kernel
theorem dX7_plugs_125 : decode cX7_plugs 125 = .ok (.getfield 83, 3) := by decide +kernel
theorem dX7_plugs_128 : decode cX7_plugs 128 = .ok (.if_icmp .ge 37, 3) := by decide +kernel
theorem dX7_plugs_131 : decode cX7_plugs 131 = .ok (.aload_n 0, 1) := by decide +kernel
theorem dX7_plugs_132 : decode cX7_plugs 132 = .ok (.getfield 7, 3) := by decide +kernel
theorem dX7_plugs_135 : decode cX7_plugs 135 = .ok (.iload 4, 2) := by decide +kernel
theorem dX7_plugs_137 : decode cX7_plugs 137 = .ok (.aload_n 0, 1) := by decide +kernel
theorem dX7_plugs_138 : decode cX7_plugs 138 = .ok (.getfield 52, 3) := by decide +kernel
theorem dX7_plugs_141 : decode cX7_plugs 141 = .ok (.iload 4, 2) := by decide +kernel
theorem dX7_plugs_143 : decode cX7_plugs 143 = .ok (.iaload, 1) := by decide +kernel
theorem dX7_plugs_144 : decode cX7_plugs 144 = .ok (.iastore, 1) := by decide +kernel
theorem dX7_plugs_145 : decode cX7_plugs 145 = .ok (.aload_n 0, 1) := by decide +kernel
theorem dX7_plugs_146 : decode cX7_plugs 146 = .ok (.getfield 13, 3) := by decide +kernel
theorem dX7_plugs_149 : decode cX7_plugs 149 = .ok (.iload 4, 2) := by decide +kernel
theorem dX7_plugs_151 : decode cX7_plugs 151 = .ok (.aload_n 0, 1) := by decide +kernel
theorem dX7_plugs_152 : decode cX7_plugs 152 = .ok (.getfield 49, 3) := by decide +kernel
theorem dX7_plugs_155 : decode cX7_plugs 155 = .ok (.iload 4, 2) := by decide +kernel
theorem dX7_plugs_157 : decode cX7_plugs 157 = .ok (.iaload, 1) := by decide +kernel
theorem dX7_plugs_158 : decode cX7_plugs 158 = .ok (.iastore, 1) := by decide +kernel
theorem dX7_plugs_159 : decode cX7_plugs 159 = .ok (.iinc 4 1, 3) := by decide +kernel
theorem dX7_plugs_162 : decode cX7_plugs 162 = .ok (.goto (-40), 3) := by decide +kernel
theorem dX7_plugs_165 : decode cX7_plugs 165 = .ok (.iload_n 3, 1) := by decide +kernel
theorem dX7_plugs_166 : decode cX7_plugs 166 = .ok (.ireturn, 1) := by decide +kernel
set_option maxRecDepth 20000 in
theorem ggX7_more_X7_noFunction : GoodIn wsX7_more wsX7_noFunction := goodIn_r _ [5, 6, 7, 8, 4, 9, 51, 52, 53, 54, 55, 56, 57, 58, 59, 60, 61, 62, 63, 64, 65, 66, 67, 68, 69, 70, 71, 72, 73, 74, 75, 76, 77, 78, 79, 80, 81, 82, 83, 84] (by decide +kernel) (by decide +kernel)
set_option maxRecDepth 20000 in
theorem gX7_more_X7_noFunction : GoodIn wsX7_more (wsV RX7 183 RX7 yX7_noFunction wsX7_noFunction) := goodIn_app (goodIn_of _ (by decide +kernel)) ggX7_more_X7_noFunction
set_option maxRecDepth 20000 in
theorem ggX7_more_X7_runsBy : GoodIn wsX7_more wsX7_runsBy := goodIn_r _ [13, 14, 15, 16, 17, 4, 18, 19, 20, 21, 22, 23, 24, 25, 26, 27, 28, 29, 30, 31, 32, 33, 34, 35, 36, 37, 38, 39, 40, 41, 42, 43, 44, 45, 46, 47, 48, 49, 50, 51, 52, 53, 54, 55, 56, 57, 58, 59, 60, 61, 62, 63, 64, 65, 66, 67, 68, 69, 70, 71, 72, 73, 74, 75, 76, 77, 78, 79, 80, 81, 82, 83, 84] (by decide +kernel) (by decide +kernel)
set_option maxRecDepth 20000 in
theorem gX7_more_X7_runsBy : GoodIn wsX7_more (wsV RX7 180 RX7 yX7_runsBy wsX7_runsBy) := goodIn_app (goodIn_of _ (by decide +kernel)) ggX7_more_X7_runsBy
theorem dX7_more_0 : decode cX7_more 0 = .ok (.aload_n 0, 1) := by decide +kernel
theorem dX7_more_1 : decode cX7_more 1 = .ok (.iload_n 1, 1) := by decide +kernel
theorem dX7_more_2 : decode cX7_more 2 = .ok (.invokevirtual 183, 3) := by decide +kernel
theorem dX7_more_5 : decode cX7_more 5 = .ok (.ifCond .ne 11, 3) := by decide +kernel
theorem dX7_more_8 : decode cX7_more 8 = .ok (.aload_n 0, 1) := by decide +kernel
theorem dX7_more_9 : decode cX7_more 9 = .ok (.iload_n 2, 1) := by decide +kernel
theorem dX7_more_10 : decode cX7_more 10 = .ok (.invokevirtual 183, 3) := by decide +kernel
theorem dX7_more_13 : decode cX7_more 13 = .ok (.ifCond .eq 5, 3) := by decide +kernel
theorem dX7_more_16 : decode cX7_more 16 = .ok (.iconst (-1), 1) := by decide +kernel
theorem dX7_more_17 : decode cX7_more 17 = .ok (.ireturn, 1) := by decide +kernel
theorem dX7_more_18 : decode cX7_more 18 = .ok (.iconst 0, 1) := by decide +kernel
theorem dX7_more_19 : decode cX7_more 19 = .ok (.istore_n 3, 1) := by decide +kernel
theorem dX7_more_20 : decode cX7_more 20 = .ok (.iconst 0, 1) := by decide +kernel
theorem dX7_more_21 : decode cX7_more 21 = .ok (.istore 4, 2) := by decide +kernel
theorem dX7_more_23 : decode cX7_more 23 = .ok (.iload 4, 2) := by decide +kernel
theorem dX7_more_25 : decode cX7_more 25 = .ok (.bipush 16, 2) := by decide +kernel
theorem dX7_more_27 : decode cX7_more 27 = .ok (.if_icmp .ge 43, 3) := by decide +kernel
theorem dX7_more_30 : decode cX7_more 30 = .ok (.aload_n 0, 1) := by decide +kernel
