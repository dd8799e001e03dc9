theorem dX6_isSheet_6 : decode cX6_isSheet 6 = .ok (.if_icmp .ge 7, 3) := by decide +kernel
theorem dX6_isSheet_9 : decode cX6_isSheet 9 = .ok (.iconst 1, 1) := by decide +kernel
theorem dX6_isSheet_10 : decode cX6_isSheet 10 = .ok (.goto 4, 3) := by decide +kernel
theorem dX6_isSheet_13 : decode cX6_isSheet 13 = .ok (.iconst 0, 1) := by decide +kernel
theorem dX6_isSheet_14 : decode cX6_isSheet 14 = .ok (.ireturn, 1) := by decide +kernel
theorem dX6_isLane_0 : decode cX6_isLane 0 = .ok (.iload_n 0, 1) := by decide +kernel
theorem dX6_isLane_1 : decode cX6_isLane 1 = .ok (.ifCond .lt 12, 3) := by decide +kernel
theorem dX6_isLane_4 : decode cX6_isLane 4 = .ok (.iload_n 0, 1) := by decide +kernel
theorem dX6_isLane_5 : decode cX6_isLane 5 = .ok (.iconst 3, 1) := by decide +kernel
theorem dX6_isLane_6 : decode cX6_isLane 6 = .ok (.if_icmp .ge 7, 3) := by decide +kernel
theorem dX6_isLane_9 : decode cX6_isLane 9 = .ok (.iconst 1, 1) := by decide +kernel
theorem dX6_isLane_10 : decode cX6_isLane 10 = .ok (.goto 4, 3) := by decide +kernel
theorem dX6_isLane_13 : decode cX6_isLane 13 = .ok (.iconst 0, 1) := by decide +kernel
theorem dX6_isLane_14 : decode cX6_isLane 14 = .ok (.ireturn, 1) := by decide +kernel
theorem dX6_isAct_0 : decode cX6_isAct 0 = .ok (.iload_n 0, 1) := by decide +kernel
theorem dX6_isAct_1 : decode cX6_isAct 1 = .ok (.ifCond .lt 12, 3) := by decide +kernel
theorem dX6_isAct_4 : decode cX6_isAct 4 = .ok (.iload_n 0, 1) := by decide +kernel
theorem dX6_isAct_5 : decode cX6_isAct 5 = .ok (.iconst 4, 1) := by decide +kernel
theorem dX6_isAct_6 : decode cX6_isAct 6 = .ok (.if_icmp .ge 7, 3) := by decide +kernel
theorem dX6_isAct_9 : decode cX6_isAct 9 = .ok (.iconst 1, 1) := by decide +kernel
theorem dX6_isAct_10 : decode cX6_isAct 10 = .ok (.goto 4, 3) := by decide +kernel
theorem dX6_isAct_13 : decode cX6_isAct 13 = .ok (.iconst 0, 1) := by decide +kernel
theorem dX6_isAct_14 : decode cX6_isAct 14 = .ok (.ireturn, 1) := by decide +kernel
theorem dX6_isOut_0 : decode cX6_isOut 0 = .ok (.iload_n 0, 1) := by decide +kernel
theorem dX6_isOut_1 : decode cX6_isOut 1 = .ok (.ifCond .lt 12, 3) := by decide +kernel
theorem dX6_isOut_4 : decode cX6_isOut 4 = .ok (.iload_n 0, 1) := by decide +kernel
theorem dX6_isOut_5 : decode cX6_isOut 5 = .ok (.iconst 4, 1) := by decide +kernel
theorem dX6_isOut_6 : decode cX6_isOut 6 = .ok (.if_icmp .gt 7, 3) := by decide +kernel
theorem dX6_isOut_9 : decode cX6_isOut 9 = .ok (.iconst 1, 1) := by decide +kernel
theorem dX6_isOut_10 : decode cX6_isOut 10 = .ok (.goto 4, 3) := by decide +kernel
theorem dX6_isOut_13 : decode cX6_isOut 13 = .ok (.iconst 0, 1) := by decide +kernel
theorem dX6_isOut_14 : decode cX6_isOut 14 = .ok (.ireturn, 1) := by decide +kernel
theorem dX6_isSet_0 : decode cX6_isSet 0 = .ok (.iload_n 0, 1) := by decide +kernel
theorem dX6_isSet_1 : decode cX6_isSet 1 = .ok (.ifCond .lt 13, 3) := by decide +kernel
theorem dX6_isSet_4 : decode cX6_isSet 4 = .ok (.iload_n 0, 1) := by decide +kernel
theorem dX6_isSet_5 : decode cX6_isSet 5 = .ok (.bipush 16, 2) := by decide +kernel
theorem dX6_isSet_7 : decode cX6_isSet 7 = .ok (.if_icmp .ge 7, 3) := by decide +kernel
theorem dX6_isSet_10 : decode cX6_isSet 10 = .ok (.iconst 1, 1) := by decide +kernel
theorem dX6_isSet_11 : decode cX6_isSet 11 = .ok (.goto 4, 3) := by decide +kernel
theorem dX6_isSet_14 : decode cX6_isSet 14 = .ok (.iconst 0, 1) := by decide +kernel
theorem dX6_isSet_15 : decode cX6_isSet 15 = .ok (.ireturn, 1) := by decide +kernel
theorem dX6_faulted_0 : decode cX6_faulted 0 = .ok (.aload_n 0, 1) := by decide +kernel
theorem dX6_faulted_1 : decode cX6_faulted 1 = .ok (.iload_n 1, 1) := by decide +kernel
theorem dX6_faulted_2 : decode cX6_faulted 2 = .ok (.putfield 52, 3) := by decide +kernel
theorem dX6_faulted_5 : decode cX6_faulted 5 = .ok (.bipush (-10), 2) := by decide +kernel
theorem dX6_faulted_7 : decode cX6_faulted 7 = .ok (.iload_n 1, 1) := by decide +kernel
theorem dX6_faulted_8 : decode cX6_faulted 8 = .ok (.isub, 1) := by decide +kernel
theorem dX6_faulted_9 : decode cX6_faulted 9 = .ok (.ireturn, 1) := by decide +kernel
theorem dX6_leaveInTrace_0 : decode cX6_leaveInTrace 0 = .ok (.aload_n 0, 1) := by decide +kernel
theorem dX6_leaveInTrace_1 : decode cX6_leaveInTrace 1 = .ok (.bipush 31, 2) := by decide +kernel
theorem dX6_leaveInTrace_3 : decode cX6_leaveInTrace 3 = .ok (.aload_n 0, 1) := by decide +kernel
theorem dX6_leaveInTrace_4 : decode cX6_leaveInTrace 4 = .ok (.getfield 56, 3) := by decide +kernel
theorem dX6_leaveInTrace_7 : decode cX6_leaveInTrace 7 = .ok (.imul, 1) := by decide +kernel
theorem dX6_leaveInTrace_8 : decode cX6_leaveInTrace 8 = .ok (.iload_n 1, 1) := by decide +kernel
theorem dX6_leaveInTrace_9 : decode cX6_leaveInTrace 9 = .ok (.iadd, 1) := by decide +kernel
theorem dX6_leaveInTrace_10 : decode cX6_leaveInTrace 10 = .ok (.putfield 56, 3) := by decide +kernel
theorem dX6_leaveInTrace_13 : decode cX6_leaveInTrace 13 = .ok (.return_, 1) := by decide +kernel
set_option maxRecDepth 20000 in
theorem ggX6_tellPlain_X6_leaveInTrace : GoodIn wsX6_tellPlain wsX6_leaveInTrace := goodIn_r _ [6, 7, 8, 9, 10, 11, 12, 13, 14, 15] (by decide +kernel) (by decide +kernel)
set_option maxRecDepth 20000 in
theorem gX6_tellPlain_X6_leaveInTrace : GoodIn wsX6_tellPlain (wsV RX6 246 RX6 yX6_leaveInTrace wsX6_leaveInTrace) := goodIn_app (goodIn_of _ (by decide +kernel)) ggX6_tellPlain_X6_leaveInTrace
theorem dX6_tellPlain_0 : decode cX6_tellPlain 0 = .ok (.aload_n 0, 1) := by decide +kernel
theorem dX6_tellPlain_1 : decode cX6_tellPlain 1 = .ok (.iconst 1, 1) := by decide +kernel
theorem dX6_tellPlain_2 : decode cX6_tellPlain 2 = .ok (.invokevirtual 246, 3) := by decide +kernel
theorem dX6_tellPlain_5 : decode cX6_tellPlain 5 = .ok (.aload_n 0, 1) := by decide +kernel
theorem dX6_tellPlain_6 : decode cX6_tellPlain 6 = .ok (.getfield 35, 3) := by decide +kernel
theorem dX6_tellPlain_9 : decode cX6_tellPlain 9 = .ok (.getfield 106, 3) := by decide +kernel
theorem dX6_tellPlain_12 : decode cX6_tellPlain 12 = .ok (.iload_n 1, 1) := by decide +kernel
theorem dX6_tellPlain_13 : decode cX6_tellPlain 13 = .ok (.iaload, 1) := by decide +kernel
theorem dX6_tellPlain_14 : decode cX6_tellPlain 14 = .ok (.ireturn, 1) := by decide +kernel
set_option maxRecDepth 20000 in
theorem ggX6_tellLeaving_X6_leaveInTrace : GoodIn wsX6_tellLeaving wsX6_leaveInTrace := goodIn_r _ [5, 6, 12, 13, 14, 15, 16, 17, 18, 19] (by decide +kernel) (by decide +kernel)
set_option maxRecDepth 20000 in
theorem gX6_tellLeaving_X6_leaveInTrace : GoodIn wsX6_tellLeaving (wsV RX6 246 RX6 yX6_leaveInTrace wsX6_leaveInTrace) := goodIn_app (goodIn_of _ (by decide +kernel)) ggX6_tellLeaving_X6_leaveInTrace
set_option maxRecDepth 20000 in
theorem ggX6_tellLeaving_X6_tellPlain : GoodIn wsX6_tellLeaving wsX6_tellPlain := goodIn_r _ [10, 11, 1, 2, 3, 4, 5, 6, 12, 13, 14, 15, 16, 17, 18, 19, 20, 21, 22, 23, 24, 25] (by decide +kernel) (by decide +kernel)
set_option maxRecDepth 20000 in
theorem gX6_tellLeaving_X6_tellPlain : GoodIn wsX6_tellLeaving (wsV RX6 243 RX6 yX6_tellPlain wsX6_tellPlain) := goodIn_app (goodIn_of _ (by decide +kernel)) ggX6_tellLeaving_X6_tellPlain
theorem dX6_tellLeaving_0 : decode cX6_tellLeaving 0 = .ok (.aload_n 0, 1) := by decide +kernel
theorem dX6_tellLeaving_1 : decode cX6_tellLeaving 1 = .ok (.iconst 2, 1) := by decide +kernel
theorem dX6_tellLeaving_2 : decode cX6_tellLeaving 2 = .ok (.invokevirtual 246, 3) := by decide +kernel
theorem dX6_tellLeaving_5 : decode cX6_tellLeaving 5 = .ok (.aload_n 0, 1) := by decide +kernel
theorem dX6_tellLeaving_6 : decode cX6_tellLeaving 6 = .ok (.iload_n 1, 1) := by decide +kernel
theorem dX6_tellLeaving_7 : decode cX6_tellLeaving 7 = .ok (.invokevirtual 243, 3) := by decide +kernel
theorem dX6_tellLeaving_10 : decode cX6_tellLeaving 10 = .ok (.bipush 100, 2) := by decide +kernel
theorem dX6_tellLeaving_12 : decode cX6_tellLeaving 12 = .ok (.iadd, 1) := by decide +kernel
theorem dX6_tellLeaving_13 : decode cX6_tellLeaving 13 = .ok (.ireturn, 1) := by decide +kernel
set_option maxRecDepth 20000 in
theorem ggX6_tellKeeping_X6_leaveInTrace : GoodIn wsX6_tellKeeping wsX6_leaveInTrace := goodIn_r _ [5, 6, 16, 17, 18, 19, 20, 21, 22, 23] (by decide +kernel) (by decide +kernel)
set_option maxRecDepth 20000 in
theorem gX6_tellKeeping_X6_leaveInTrace : GoodIn wsX6_tellKeeping (wsV RX6 246 RX6 yX6_leaveInTrace wsX6_leaveInTrace) := goodIn_app (goodIn_of _ (by decide +kernel)) ggX6_tellKeeping_X6_leaveInTrace
set_option maxRecDepth 20000 in
theorem ggX6_tellKeeping_X6_tellLeaving : GoodIn wsX6_tellKeeping wsX6_tellLeaving := goodIn_r _ [10, 1, 2, 3, 4, 5, 6, 11, 12, 13, 14, 15, 16, 17, 18, 19, 20, 21, 22, 23, 24, 25, 26, 27, 28, 29] (by decide +kernel) (by decide +kernel)
set_option maxRecDepth 20000 in
theorem gX6_tellKeeping_X6_tellLeaving : GoodIn wsX6_tellKeeping (wsV RX6 237 RX6 yX6_tellLeaving wsX6_tellLeaving) := goodIn_app (goodIn_of _ (by decide +kernel)) ggX6_tellKeeping_X6_tellLeaving
set_option maxRecDepth 20000 in
theorem ggX6_tellKeeping_X6_tellPlain : GoodIn wsX6_tellKeeping wsX6_tellPlain := goodIn_r _ [14, 15, 1, 2, 3, 4, 5, 6, 16, 17, 18, 19, 20, 21, 22, 23, 24, 25, 26, 27, 28, 29] (by decide +kernel) (by decide +kernel)
set_option maxRecDepth 20000 in
theorem gX6_tellKeeping_X6_tellPlain : GoodIn wsX6_tellKeeping (wsV RX6 243 RX6 yX6_tellPlain wsX6_tellPlain) := goodIn_app (goodIn_of _ (by decide +kernel)) ggX6_tellKeeping_X6_tellPlain
theorem dX6_tellKeeping_0 : decode cX6_tellKeeping 0 = .ok (.aload_n 0, 1) := by decide +kernel
theorem dX6_tellKeeping_1 : decode cX6_tellKeeping 1 = .ok (.iconst 3, 1) := by decide +kernel
theorem dX6_tellKeeping_2 : decode cX6_tellKeeping 2 = .ok (.invokevirtual 246, 3) := by decide +kernel
theorem dX6_tellKeeping_5 : decode cX6_tellKeeping 5 = .ok (.aload_n 0, 1) := by decide +kernel
theorem dX6_tellKeeping_6 : decode cX6_tellKeeping 6 = .ok (.iload_n 1, 1) := by decide +kernel
theorem dX6_tellKeeping_7 : decode cX6_tellKeeping 7 = .ok (.invokevirtual 237, 3) := by decide +kernel
theorem dX6_tellKeeping_10 : decode cX6_tellKeeping 10 = .ok (.istore_n 2, 1) := by decide +kernel
theorem dX6_tellKeeping_11 : decode cX6_tellKeeping 11 = .ok (.iload_n 2, 1) := by decide +kernel
theorem dX6_tellKeeping_12 : decode cX6_tellKeeping 12 = .ok (.aload_n 0, 1) := by decide +kernel
theorem dX6_tellKeeping_13 : decode cX6_tellKeeping 13 = .ok (.iload_n 1, 1) := by decide +kernel
theorem dX6_tellKeeping_14 : decode cX6_tellKeeping 14 = .ok (.invokevirtual 243, 3) := by decide +kernel
theorem dX6_tellKeeping_17 : decode cX6_tellKeeping 17 = .ok (.iadd, 1) := by decide +kernel
theorem dX6_tellKeeping_18 : decode cX6_tellKeeping 18 = .ok (.ireturn, 1) := by decide +kernel
theorem dX7_init_0 : decode cX7_init 0 = .ok (.aload_n 0, 1) := by decide +kernel
theorem dX7_init_1 : decode cX7_init 1 = .ok (.invokespecial 1, 3) := by decide +kernel
theorem dX7_init_4 : decode cX7_init 4 = .ok (.aload_n 0, 1) := by decide +kernel
theorem dX7_init_5 : decode cX7_init 5 = .ok (.iconst 5, 1) := by decide +kernel
theorem dX7_init_6 : decode cX7_init 6 = .ok (.newarray .int, 2) := by decide +kernel
theorem dX7_init_8 : decode cX7_init 8 = .ok (.putfield 7, 3) := by decide +kernel
theorem dX7_init_11 : decode cX7_init 11 = .ok (.aload_n 0, 1) := by decide +kernel
theorem dX7_init_12 : decode cX7_init 12 = .ok (.iconst 5, 1) := by decide +kernel
theorem dX7_init_13 : decode cX7_init 13 = .ok (.newarray .int, 2) := by decide +kernel
theorem dX7_init_15 : decode cX7_init 15 = .ok (.putfield 13, 3) := by decide +kernel
theorem dX7_init_18 : decode cX7_init 18 = .ok (.aload_n 0, 1) := by decide +kernel
theorem dX7_init_19 : decode cX7_init 19 = .ok (.iconst 5, 1) := by decide +kernel
theorem dX7_init_20 : decode cX7_init 20 = .ok (.newarray .int, 2) := by decide +kernel
theorem dX7_init_22 : decode cX7_init 22 = .ok (.putfield 16, 3) := by decide +kernel
theorem dX7_init_25 : decode cX7_init 25 = .ok (.aload_n 0, 1) := by decide +kernel
theorem dX7_init_26 : decode cX7_init 26 = .ok (.bipush 20, 2) := by decide +kernel
theorem dX7_init_28 : decode cX7_init 28 = .ok (.newarray .int, 2) := by decide +kernel
theorem dX7_init_30 : decode cX7_init 30 = .ok (.putfield 19, 3) := by decide +kernel
theorem dX7_init_33 : decode cX7_init 33 = .ok (.aload_n 0, 1) := by decide +kernel
theorem dX7_init_34 : decode cX7_init 34 = .ok (.iconst 5, 1) := by decide +kernel
theorem dX7_init_35 : decode cX7_init 35 = .ok (.newarray .int, 2) := by decide +kernel
theorem dX7_init_37 : decode cX7_init 37 = .ok (.putfield 22, 3) := by decide +kernel
theorem dX7_init_40 : decode cX7_init 40 = .ok (.aload_n 0, 1) := by decide +kernel
theorem dX7_init_41 : decode cX7_init 41 = .ok (.iconst 5, 1) := by decide +kernel
theorem dX7_init_42 : decode cX7_init 42 = .ok (.newarray .int, 2) := by decide +kernel
theorem dX7_init_44 : decode cX7_init 44 = .ok (.putfield 25, 3) := by decide +kernel
theorem dX7_init_47 : decode cX7_init 47 = .ok (.aload_n 0, 1) := by decide +kernel
theorem dX7_init_48 : decode cX7_init 48 = .ok (.iconst 5, 1) := by decide +kernel
theorem dX7_init_49 : decode cX7_init 49 = .ok (.newarray .int, 2) := by decide +kernel
theorem dX7_init_51 : decode cX7_init 51 = .ok (.putfield 28, 3) := by decide +kernel
theorem dX7_init_54 : decode cX7_init 54 = .ok (.aload_n 0, 1) := by decide +kernel
theorem dX7_init_55 : decode cX7_init 55 = .ok (.bipush 20, 2) := by decide +kernel
theorem dX7_init_57 : decode cX7_init 57 = .ok (.newarray .int, 2) := by decide +kernel
theorem dX7_init_59 : decode cX7_init 59 = .ok (.putfield 31, 3) := by decide +kernel
theorem dX7_init_62 : decode cX7_init 62 = .ok (.aload_n 0, 1) := by decide +kernel
theorem dX7_init_63 : decode cX7_init 63 = .ok (.iconst 5, 1) := by decide +kernel
theorem dX7_init_64 : decode cX7_init 64 = .ok (.newarray .int, 2) := by decide +kernel
theorem dX7_init_66 : decode cX7_init 66 = .ok (.putfield 34, 3) := by decide +kernel
theorem dX7_init_69 : decode cX7_init 69 = .ok (.aload_n 0, 1) := by decide +kernel
theorem dX7_init_70 : decode cX7_init 70 = .ok (.iconst 5, 1) := by decide +kernel
theorem dX7_init_71 : decode cX7_init 71 = .ok (.newarray .int, 2) := by decide +kernel
theorem dX7_init_73 : decode cX7_init 73 = .ok (.putfield 37, 3) := by decide +kernel
theorem dX7_init_76 : decode cX7_init 76 = .ok (.aload_n 0, 1) := by decide +kernel
theorem dX7_init_77 : decode cX7_init 77 = .ok (.sipush 1024, 3) := by decide +kernel
theorem dX7_init_80 : decode cX7_init 80 = .ok (.newarray .int, 2) := by decide +kernel
theorem dX7_init_82 : decode cX7_init 82 = .ok (.putfield 40, 3) := by decide +kernel
theorem dX7_init_85 : decode cX7_init 85 = .ok (.aload_n 0, 1) := by decide +kernel
theorem dX7_init_86 : decode cX7_init 86 = .ok (.iconst 5, 1) := by decide +kernel
theorem dX7_init_87 : decode cX7_init 87 = .ok (.newarray .int, 2) := by decide +kernel
theorem dX7_init_89 : decode cX7_init 89 = .ok (.putfield 43, 3) := by decide +kernel
theorem dX7_init_92 : decode cX7_init 92 = .ok (.aload_n 0, 1) := by decide +kernel
theorem dX7_init_93 : decode cX7_init 93 = .ok (.iconst 5, 1) := by decide +kernel
theorem dX7_init_94 : decode cX7_init 94 = .ok (.newarray .int, 2) := by decide +kernel
theorem dX7_init_96 : decode cX7_init 96 = .ok (.putfield 46, 3) := by decide +kernel
theorem dX7_init_99 : decode cX7_init 99 = .ok (.aload_n 0, 1) := by decide +kernel
theorem dX7_init_100 : decode cX7_init 100 = .ok (.iconst 5, 1) := by decide +kernel
theorem dX7_init_101 : decode cX7_init 101 = .ok (.newarray .int, 2) := by decide +kernel
theorem dX7_init_103 : decode cX7_init 103 = .ok (.putfield 49, 3) := by decide +kernel
theorem dX7_init_106 : decode cX7_init 106 = .ok (.aload_n 0, 1) := by decide +kernel
theorem dX7_init_107 : decode cX7_init 107 = .ok (.iconst 5, 1) := by decide +kernel
theorem dX7_init_108 : decode cX7_init 108 = .ok (.newarray .int, 2) := by decide +kernel
theorem dX7_init_110 : decode cX7_init 110 = .ok (.putfield 52, 3) := by decide +kernel
theorem dX7_init_113 : decode cX7_init 113 = .ok (.aload_n 0, 1) := by decide +kernel
theorem dX7_init_114 : decode cX7_init 114 = .ok (.bipush 8, 2) := by decide +kernel
theorem dX7_init_116 : decode cX7_init 116 = .ok (.newarray .int, 2) := by decide +kernel
theorem dX7_init_118 : decode cX7_init 118 = .ok (.putfield 55, 3) := by decide +kernel
theorem dX7_init_121 : decode cX7_init 121 = .ok (.aload_n 0, 1) := by decide +kernel
theorem dX7_init_122 : decode cX7_init 122 = .ok (.bipush 8, 2) := by decide +kernel
theorem dX7_init_124 : decode cX7_init 124 = .ok (.newarray .int, 2) := by decide +kernel
theorem dX7_init_126 : decode cX7_init 126 = .ok (.putfield 58, 3) := by decide +kernel
theorem dX7_init_129 : decode cX7_init 129 = .ok (.aload_n 0, 1) := by decide +kernel
theorem dX7_init_130 : decode cX7_init 130 = .ok (.iconst 4, 1) := by decide +kernel
theorem dX7_init_131 : decode cX7_init 131 = .ok (.newarray .int, 2) := by decide +kernel
theorem dX7_init_133 : decode cX7_init 133 = .ok (.putfield 61, 3) := by decide +kernel
theorem dX7_init_136 : decode cX7_init 136 = .ok (.aload_n 0, 1) := by decide +kernel
theorem dX7_init_137 : decode cX7_init 137 = .ok (.iconst 4, 1) := by decide +kernel
theorem dX7_init_138 : decode cX7_init 138 = .ok (.newarray .int, 2) := by decide +kernel
theorem dX7_init_140 : decode cX7_init 140 = .ok (.putfield 64, 3) := by decide +kernel
theorem dX7_init_143 : decode cX7_init 143 = .ok (.aload_n 0, 1) := by decide +kernel
theorem dX7_init_144 : decode cX7_init 144 = .ok (.sipush 240, 3) := by decide +kernel
theorem dX7_init_147 : decode cX7_init 147 = .ok (.newarray .int, 2) := by decide +kernel
theorem dX7_init_149 : decode cX7_init 149 = .ok (.putfield 67, 3) := by decide +kernel
theorem dX7_init_152 : decode cX7_init 152 = .ok (.aload_n 0, 1) := by decide +kernel
theorem dX7_init_153 : decode cX7_init 153 = .ok (.bipush 60, 2) := by decide +kernel
theorem dX7_init_155 : decode cX7_init 155 = .ok (.newarray .int, 2) := by decide +kernel
theorem dX7_init_157 : decode cX7_init 157 = .ok (.putfield 70, 3) := by decide +kernel
theorem dX7_init_160 : decode cX7_init 160 = .ok (.iconst 0, 1) := by decide +kernel
theorem dX7_init_161 : decode cX7_init 161 = .ok (.istore_n 1, 1) := by decide +kernel
theorem dX7_init_162 : decode cX7_init 162 = .ok (.iload_n 1, 1) := by decide +kernel
theorem dX7_init_163 : decode cX7_init 163 = .ok (.iconst 4, 1) := by decide +kernel
theorem dX7_init_164 : decode cX7_init 164 = .ok (.if_icmp .ge 16, 3) := by decide +kernel
theorem dX7_init_167 : decode cX7_init 167 = .ok (.aload_n 0, 1) := by decide +kernel
theorem dX7_init_168 : decode cX7_init 168 = .ok (.getfield 61, 3) := by decide +kernel
theorem dX7_init_171 : decode cX7_init 171 = .ok (.iload_n 1, 1) := by decide +kernel
theorem dX7_init_172 : decode cX7_init 172 = .ok (.iconst (-1), 1) := by decide +kernel
theorem dX7_init_173 : decode cX7_init 173 = .ok (.iastore, 1) := by decide +kernel
theorem dX7_init_174 : decode cX7_init 174 = .ok (.iinc 1 1, 3) := by decide +kernel
theorem dX7_init_177 : decode cX7_init 177 = .ok (.goto (-15), 3) := by decide +kernel
theorem dX7_init_180 : decode cX7_init 180 = .ok (.return_, 1) := by decide +kernel
theorem dX7_in_0 : decode cX7_in 0 = .ok (.lload_n 0, 1) := by decide +kernel
theorem dX7_in_1 : decode cX7_in 1 = .ok (.lload_n 2, 1) := by decide +kernel
theorem dX7_in_2 : decode cX7_in 2 = .ok (.lcmp, 1) := by decide +kernel
theorem dX7_in_3 : decode cX7_in 3 = .ok (.ifCond .lt 14, 3) := by decide +kernel
theorem dX7_in_6 : decode cX7_in 6 = .ok (.lload_n 0, 1) := by decide +kernel
theorem dX7_in_7 : decode cX7_in 7 = .ok (.lload 4, 2) := by decide +kernel
theorem dX7_in_9 : decode cX7_in 9 = .ok (.lcmp, 1) := by decide +kernel
theorem dX7_in_10 : decode cX7_in 10 = .ok (.ifCond .gt 7, 3) := by decide +kernel
theorem dX7_in_13 : decode cX7_in 13 = .ok (.iconst 1, 1) := by decide +kernel
theorem dX7_in_14 : decode cX7_in 14 = .ok (.goto 4, 3) := by decide +kernel
theorem dX7_in_17 : decode cX7_in 17 = .ok (.iconst 0, 1) := by decide +kernel
theorem dX7_in_18 : decode cX7_in 18 = .ok (.ireturn, 1) := by decide +kernel
theorem dX7_lost_0 : decode cX7_lost 0 = .ok (.ldc2_w 73, 3) := by decide +kernel
theorem dX7_lost_3 : decode cX7_lost 3 = .ok (.lreturn, 1) := by decide +kernel
theorem dX7_bits_0 : decode cX7_bits 0 = .ok (.iconst 0, 1) := by decide +kernel
theorem dX7_bits_1 : decode cX7_bits 1 = .ok (.istore_n 1, 1) := by decide +kernel
theorem dX7_bits_2 : decode cX7_bits 2 = .ok (.iload_n 0, 1) := by decide +kernel
theorem dX7_bits_3 : decode cX7_bits 3 = .ok (.istore_n 2, 1) := by decide +kernel
theorem dX7_bits_4 : decode cX7_bits 4 = .ok (.iload_n 2, 1) := by decide +kernel
theorem dX7_bits_5 : decode cX7_bits 5 = .ok (.ifCond .le 16, 3) := by decide +kernel
theorem dX7_bits_8 : decode cX7_bits 8 = .ok (.iload_n 1, 1) := by decide +kernel
theorem dX7_bits_9 : decode cX7_bits 9 = .ok (.iload_n 2, 1) := by decide +kernel
theorem dX7_bits_10 : decode cX7_bits 10 = .ok (.iconst 1, 1) := by decide +kernel
theorem dX7_bits_11 : decode cX7_bits 11 = .ok (.iand, 1) := by decide +kernel
theorem dX7_bits_12 : decode cX7_bits 12 = .ok (.iadd, 1) := by decide +kernel
theorem dX7_bits_13 : decode cX7_bits 13 = .ok (.istore_n 1, 1) := by decide +kernel
theorem dX7_bits_14 : decode cX7_bits 14 = .ok (.iload_n 2, 1) := by decide +kernel
theorem dX7_bits_15 : decode cX7_bits 15 = .ok (.iconst 1, 1) := by decide +kernel
theorem dX7_bits_16 : decode cX7_bits 16 = .ok (.ishr, 1) := by decide +kernel
theorem dX7_bits_17 : decode cX7_bits 17 = .ok (.istore_n 2, 1) := by decide +kernel
theorem dX7_bits_18 : decode cX7_bits 18 = .ok (.goto (-14), 3) := by decide +kernel
theorem dX7_bits_21 : decode cX7_bits 21 = .ok (.iload_n 1, 1) := by decide +kernel
theorem dX7_bits_22 : decode cX7_bits 22 = .ok (.ireturn, 1) := by decide +kernel
theorem dX7_share_0 : decode cX7_share 0 = .ok (.lload_n 0, 1) := by decide +kernel
theorem dX7_share_1 : decode cX7_share 1 = .ok (.lstore 5, 2) := by decide +kernel
theorem dX7_share_3 : decode cX7_share 3 = .ok (.lload_n 2, 1) := by decide +kernel
theorem dX7_share_4 : decode cX7_share 4 = .ok (.lstore 7, 2) := by decide +kernel
theorem dX7_share_6 : decode cX7_share 6 = .ok (.lload 7, 2) := by decide +kernel
theorem dX7_share_8 : decode cX7_share 8 = .ok (.lconst 0, 1) := by decide +kernel
theorem dX7_share_9 : decode cX7_share 9 = .ok (.lcmp, 1) := by decide +kernel
theorem dX7_share_10 : decode cX7_share 10 = .ok (.ifCond .eq 21, 3) := by decide +kernel
theorem dX7_share_13 : decode cX7_share 13 = .ok (.lload 5, 2) := by decide +kernel
theorem dX7_share_15 : decode cX7_share 15 = .ok (.lload 7, 2) := by decide +kernel
theorem dX7_share_17 : decode cX7_share 17 = .ok (.lrem, 1) := by decide +kernel
theorem dX7_share_18 : decode cX7_share 18 = .ok (.lstore 9, 2) := by decide +kernel
theorem dX7_share_20 : decode cX7_share 20 = .ok (.lload 7, 2) := by decide +kernel
theorem dX7_share_22 : decode cX7_share 22 = .ok (.lstore 5, 2) := by decide +kernel
theorem dX7_share_24 : decode cX7_share 24 = .ok (.lload 9, 2) := by decide +kernel
theorem dX7_share_26 : decode cX7_share 26 = .ok (.lstore 7, 2) := by decide +kernel
theorem dX7_share_28 : decode cX7_share 28 = .ok (.goto (-22), 3) := by decide +kernel
theorem dX7_share_31 : decode cX7_share 31 = .ok (.iload 4, 2) := by decide +kernel
theorem dX7_share_33 : decode cX7_share 33 = .ok (.ifCond .ne 7, 3) := by decide +kernel
theorem dX7_share_36 : decode cX7_share 36 = .ok (.lload_n 0, 1) := by decide +kernel
theorem dX7_share_37 : decode cX7_share 37 = .ok (.goto 4, 3) := by decide +kernel
theorem dX7_share_40 : decode cX7_share 40 = .ok (.lload_n 2, 1) := by decide +kernel
theorem dX7_share_41 : decode cX7_share 41 = .ok (.lload 5, 2) := by decide +kernel
theorem dX7_share_43 : decode cX7_share 43 = .ok (.ldiv, 1) := by decide +kernel
theorem dX7_share_44 : decode cX7_share 44 = .ok (.lreturn, 1) := by decide +kernel
theorem dX7_refused_0 : decode cX7_refused 0 = .ok (.aload_n 0, 1) := by decide +kernel
theorem dX7_refused_1 : decode cX7_refused 1 = .ok (.iconst 0, 1) := by decide +kernel
theorem dX7_refused_2 : decode cX7_refused 2 = .ok (.putfield 75, 3) := by decide +kernel
theorem dX7_refused_5 : decode cX7_refused 5 = .ok (.iload_n 1, 1) := by decide +kernel
theorem dX7_refused_6 : decode cX7_refused 6 = .ok (.ireturn, 1) := by decide +kernel
theorem dX7_failed_0 : decode cX7_failed 0 = .ok (.aload_n 0, 1) := by decide +kernel
theorem dX7_failed_1 : decode cX7_failed 1 = .ok (.iload_n 1, 1) := by decide +kernel
theorem dX7_failed_2 : decode cX7_failed 2 = .ok (.putfield 75, 3) := by decide +kernel
theorem dX7_failed_5 : decode cX7_failed 5 = .ok (.bipush (-10), 2) := by decide +kernel
theorem dX7_failed_7 : decode cX7_failed 7 = .ok (.iload_n 1, 1) := by decide +kernel
theorem dX7_failed_8 : decode cX7_failed 8 = .ok (.isub, 1) := by decide +kernel
theorem dX7_failed_9 : decode cX7_failed 9 = .ok (.ireturn, 1) := by decide +kernel
set_option maxRecDepth 20000 in
theorem ggX7_failedLong_X7_lost : GoodIn wsX7_failedLong wsX7_lost := goodIn_r _ [5, 6] (by decide +kernel) (by decide +kernel)
set_option maxRecDepth 20000 in
theorem gX7_failedLong_X7_lost : GoodIn wsX7_failedLong (va_wsS RX7 79 yX7_lost wsX7_lost) := goodIn_app (goodIn_of _ (by decide +kernel)) ggX7_failedLong_X7_lost
theorem dX7_failedLong_0 : decode cX7_failedLong 0 = .ok (.aload_n 0, 1) := by decide +kernel
theorem dX7_failedLong_1 : decode cX7_failedLong 1 = .ok (.iload_n 1, 1) := by decide +kernel
theorem dX7_failedLong_2 : decode cX7_failedLong 2 = .ok (.putfield 75, 3) := by decide +kernel
theorem dX7_failedLong_5 : decode cX7_failedLong 5 = .ok (.invokestatic 79, 3) := by decide +kernel
theorem dX7_failedLong_8 : decode cX7_failedLong 8 = .ok (.lreturn, 1) := by decide +kernel
set_option maxRecDepth 20000 in
theorem ggX7_noFunction_X7_in : GoodIn wsX7_noFunction wsX7_in := goodIn_r _ [5] (by decide +kernel) (by decide +kernel)
set_option maxRecDepth 20000 in
theorem gX7_noFunction_X7_in : GoodIn wsX7_noFunction (va_wsS RX7 86 yX7_in wsX7_in) := goodIn_app (goodIn_of _ (by decide +kernel)) ggX7_noFunction_X7_in
theorem dX7_noFunction_0 : decode cX7_noFunction 0 = .ok (.iload_n 1, 1) := by decide +kernel
theorem dX7_noFunction_1 : decode cX7_noFunction 1 = .ok (.i2l, 1) := by decide +kernel
theorem dX7_noFunction_2 : decode cX7_noFunction 2 = .ok (.lconst 0, 1) := by decide +kernel
theorem dX7_noFunction_3 : decode cX7_noFunction 3 = .ok (.aload_n 0, 1) := by decide +kernel
theorem dX7_noFunction_4 : decode cX7_noFunction 4 = .ok (.getfield 83, 3) := by decide +kernel
theorem dX7_noFunction_7 : decode cX7_noFunction 7 = .ok (.i2l, 1) := by decide +kernel
theorem dX7_noFunction_8 : decode cX7_noFunction 8 = .ok (.lconst 1, 1) := by decide +kernel
theorem dX7_noFunction_9 : decode cX7_noFunction 9 = .ok (.lsub, 1) := by decide +kernel
theorem dX7_noFunction_10 : decode cX7_noFunction 10 = .ok (.invokestatic 86, 3) := by decide +kernel
theorem dX7_noFunction_13 : decode cX7_noFunction 13 = .ok (.ifCond .ne 7, 3) := by decide +kernel
theorem dX7_noFunction_16 : decode cX7_noFunction 16 = .ok (.iconst 1, 1) := by decide +kernel
theorem dX7_noFunction_17 : decode cX7_noFunction 17 = .ok (.goto 4, 3) := by decide +kernel
theorem dX7_noFunction_20 : decode cX7_noFunction 20 = .ok (.iconst 0, 1) := by decide +kernel
theorem dX7_noFunction_21 : decode cX7_noFunction 21 = .ok (.ireturn, 1) := by decide +kernel
theorem dX7_codeAt_0 : decode cX7_codeAt 0 = .ok (.aload_n 0, 1) := by decide +kernel
theorem dX7_codeAt_1 : decode cX7_codeAt 1 = .ok (.getfield 90, 3) := by decide +kernel
theorem dX7_codeAt_4 : decode cX7_codeAt 4 = .ok (.iload_n 2, 1) := by decide +kernel
theorem dX7_codeAt_5 : decode cX7_codeAt 5 = .ok (.if_icmp .ge 17, 3) := by decide +kernel
theorem dX7_codeAt_8 : decode cX7_codeAt 8 = .ok (.aload_n 0, 1) := by decide +kernel
theorem dX7_codeAt_9 : decode cX7_codeAt 9 = .ok (.getfield 67, 3) := by decide +kernel
theorem dX7_codeAt_12 : decode cX7_codeAt 12 = .ok (.iload_n 1, 1) := by decide +kernel
theorem dX7_codeAt_13 : decode cX7_codeAt 13 = .ok (.aload_n 0, 1) := by decide +kernel
theorem dX7_codeAt_14 : decode cX7_codeAt 14 = .ok (.getfield 90, 3) := by decide +kernel
theorem dX7_codeAt_17 : decode cX7_codeAt 17 = .ok (.iadd, 1) := by decide +kernel
theorem dX7_codeAt_18 : decode cX7_codeAt 18 = .ok (.iaload, 1) := by decide +kernel
theorem dX7_codeAt_19 : decode cX7_codeAt 19 = .ok (.goto 5, 3) := by decide +kernel
theorem dX7_codeAt_22 : decode cX7_codeAt 22 = .ok (.bipush (-9), 2) := by decide +kernel
theorem dX7_codeAt_24 : decode cX7_codeAt 24 = .ok (.ireturn, 1) := by decide +kernel
set_option maxRecDepth 20000 in
theorem ggX7_readsStep_X7_codeAt : GoodIn wsX7_readsStep wsX7_codeAt := goodIn_r _ [12, 7, 13, 17, 18, 19, 20, 21, 22, 23, 24, 25, 26, 27, 28, 29, 30, 31, 32, 33, 34, 35, 36, 37, 38, 39, 40, 41, 42, 43, 44, 45, 46, 47, 48, 49, 50] (by decide +kernel) (by decide +kernel)
set_option maxRecDepth 20000 in
theorem gX7_readsStep_X7_codeAt : GoodIn wsX7_readsStep (wsV RX7 93 RX7 yX7_codeAt wsX7_codeAt) := goodIn_app (goodIn_of _ (by decide +kernel)) ggX7_readsStep_X7_codeAt
set_option maxRecDepth 20000 in
theorem ggX7_readsStep_X7_in : GoodIn wsX7_readsStep wsX7_in := goodIn_r _ [16] (by decide +kernel) (by decide +kernel)
set_option maxRecDepth 20000 in
theorem gX7_readsStep_X7_in : GoodIn wsX7_readsStep (va_wsS RX7 86 yX7_in wsX7_in) := goodIn_app (goodIn_of _ (by decide +kernel)) ggX7_readsStep_X7_in
theorem dX7_readsStep_0 : decode cX7_readsStep 0 = .ok (.aload_n 0, 1) := by decide +kernel
theorem dX7_readsStep_1 : decode cX7_readsStep 1 = .ok (.iload_n 1, 1) := by decide +kernel
theorem dX7_readsStep_2 : decode cX7_readsStep 2 = .ok (.iload_n 2, 1) := by decide +kernel
theorem dX7_readsStep_3 : decode cX7_readsStep 3 = .ok (.invokevirtual 93, 3) := by decide +kernel
theorem dX7_readsStep_6 : decode cX7_readsStep 6 = .ok (.istore 4, 2) := by decide +kernel
theorem dX7_readsStep_8 : decode cX7_readsStep 8 = .ok (.iload 4, 2) := by decide +kernel
theorem dX7_readsStep_10 : decode cX7_readsStep 10 = .ok (.i2l, 1) := by decide +kernel
theorem dX7_readsStep_11 : decode cX7_readsStep 11 = .ok (.ldc2_w 97, 3) := by decide +kernel
theorem dX7_readsStep_14 : decode cX7_readsStep 14 = .ok (.ldc2_w 99, 3) := by decide +kernel
theorem dX7_readsStep_17 : decode cX7_readsStep 17 = .ok (.invokestatic 86, 3) := by decide +kernel
theorem dX7_readsStep_20 : decode cX7_readsStep 20 = .ok (.ifCond .eq 11, 3) := by decide +kernel
theorem dX7_readsStep_23 : decode cX7_readsStep 23 = .ok (.iload 4, 2) := by decide +kernel
theorem dX7_readsStep_25 : decode cX7_readsStep 25 = .ok (.bipush 97, 2) := by decide +kernel
theorem dX7_readsStep_27 : decode cX7_readsStep 27 = .ok (.isub, 1) := by decide +kernel
theorem dX7_readsStep_28 : decode cX7_readsStep 28 = .ok (.goto 33, 3) := by decide +kernel
theorem dX7_readsStep_31 : decode cX7_readsStep 31 = .ok (.iload 4, 2) := by decide +kernel
theorem dX7_readsStep_33 : decode cX7_readsStep 33 = .ok (.i2l, 1) := by decide +kernel
theorem dX7_readsStep_34 : decode cX7_readsStep 34 = .ok (.ldc2_w 101, 3) := by decide +kernel
theorem dX7_readsStep_37 : decode cX7_readsStep 37 = .ok (.ldc2_w 103, 3) := by decide +kernel
theorem dX7_readsStep_40 : decode cX7_readsStep 40 = .ok (.iload_n 3, 1) := by decide +kernel
theorem dX7_readsStep_41 : decode cX7_readsStep 41 = .ok (.i2l, 1) := by decide +kernel
theorem dX7_readsStep_42 : decode cX7_readsStep 42 = .ok (.ladd, 1) := by decide +kernel
theorem dX7_readsStep_43 : decode cX7_readsStep 43 = .ok (.invokestatic 86, 3) := by decide +kernel
theorem dX7_readsStep_46 : decode cX7_readsStep 46 = .ok (.ifCond .eq 13, 3) := by decide +kernel
theorem dX7_readsStep_49 : decode cX7_readsStep 49 = .ok (.iload 4, 2) := by decide +kernel
theorem dX7_readsStep_51 : decode cX7_readsStep 51 = .ok (.bipush 48, 2) := by decide +kernel
theorem dX7_readsStep_53 : decode cX7_readsStep 53 = .ok (.isub, 1) := by decide +kernel
theorem dX7_readsStep_54 : decode cX7_readsStep 54 = .ok (.iconst 4, 1) := by decide +kernel
theorem dX7_readsStep_55 : decode cX7_readsStep 55 = .ok (.iadd, 1) := by decide +kernel
theorem dX7_readsStep_56 : decode cX7_readsStep 56 = .ok (.goto 5, 3) := by decide +kernel
theorem dX7_readsStep_59 : decode cX7_readsStep 59 = .ok (.bipush (-9), 2) := by decide +kernel
theorem dX7_readsStep_61 : decode cX7_readsStep 61 = .ok (.istore 5, 2) := by decide +kernel
theorem dX7_readsStep_63 : decode cX7_readsStep 63 = .ok (.iload 5, 2) := by decide +kernel
theorem dX7_readsStep_65 : decode cX7_readsStep 65 = .ok (.ifCond .lt 13, 3) := by decide +kernel
theorem dX7_readsStep_68 : decode cX7_readsStep 68 = .ok (.aload_n 0, 1) := by decide +kernel
theorem dX7_readsStep_69 : decode cX7_readsStep 69 = .ok (.getfield 28, 3) := by decide +kernel
theorem dX7_readsStep_72 : decode cX7_readsStep 72 = .ok (.iload_n 3, 1) := by decide +kernel
theorem dX7_readsStep_73 : decode cX7_readsStep 73 = .ok (.iaload, 1) := by decide +kernel
theorem dX7_readsStep_74 : decode cX7_readsStep 74 = .ok (.iconst 4, 1) := by decide +kernel
theorem dX7_readsStep_75 : decode cX7_readsStep 75 = .ok (.if_icmp .ne 5, 3) := by decide +kernel
theorem dX7_readsStep_78 : decode cX7_readsStep 78 = .ok (.iconst 0, 1) := by decide +kernel
theorem dX7_readsStep_79 : decode cX7_readsStep 79 = .ok (.ireturn, 1) := by decide +kernel
theorem dX7_readsStep_80 : decode cX7_readsStep 80 = .ok (.aload_n 0, 1) := by decide +kernel
theorem dX7_readsStep_81 : decode cX7_readsStep 81 = .ok (.getfield 31, 3) := by decide +kernel
theorem dX7_readsStep_84 : decode cX7_readsStep 84 = .ok (.iconst 4, 1) := by decide +kernel
theorem dX7_readsStep_85 : decode cX7_readsStep 85 = .ok (.iload_n 3, 1) := by decide +kernel
theorem dX7_readsStep_86 : decode cX7_readsStep 86 = .ok (.imul, 1) := by decide +kernel
theorem dX7_readsStep_87 : decode cX7_readsStep 87 = .ok (.aload_n 0, 1) := by decide +kernel
theorem dX7_readsStep_88 : decode cX7_readsStep 88 = .ok (.getfield 28, 3) := by decide +kernel
theorem dX7_readsStep_91 : decode cX7_readsStep 91 = .ok (.iload_n 3, 1) := by decide +kernel
theorem dX7_readsStep_92 : decode cX7_readsStep 92 = .ok (.iaload, 1) := by decide +kernel
theorem dX7_readsStep_93 : decode cX7_readsStep 93 = .ok (.iadd, 1) := by decide +kernel
theorem dX7_readsStep_94 : decode cX7_readsStep 94 = .ok (.iload 5, 2) := by decide +kernel
theorem dX7_readsStep_96 : decode cX7_readsStep 96 = .ok (.iastore, 1) := by decide +kernel
theorem dX7_readsStep_97 : decode cX7_readsStep 97 = .ok (.aload_n 0, 1) := by decide +kernel
theorem dX7_readsStep_98 : decode cX7_readsStep 98 = .ok (.getfield 28, 3) := by decide +kernel
theorem dX7_readsStep_101 : decode cX7_readsStep 101 = .ok (.iload_n 3, 1) := by decide +kernel
theorem dX7_readsStep_102 : decode cX7_readsStep 102 = .ok (.dup2, 1) := by decide +kernel
theorem dX7_readsStep_103 : decode cX7_readsStep 103 = .ok (.iaload, 1) := by decide +kernel
theorem dX7_readsStep_104 : decode cX7_readsStep 104 = .ok (.iconst 1, 1) := by decide +kernel
theorem dX7_readsStep_105 : decode cX7_readsStep 105 = .ok (.iadd, 1) := by decide +kernel
theorem dX7_readsStep_106 : decode cX7_readsStep 106 = .ok (.iastore, 1) := by decide +kernel
theorem dX7_readsStep_107 : decode cX7_readsStep 107 = .ok (.aload_n 0, 1) := by decide +kernel
theorem dX7_readsStep_108 : decode cX7_readsStep 108 = .ok (.dup, 1) := by decide +kernel
theorem dX7_readsStep_109 : decode cX7_readsStep 109 = .ok (.getfield 90, 3) := by decide +kernel
theorem dX7_readsStep_112 : decode cX7_readsStep 112 = .ok (.iconst 1, 1) := by decide +kernel
theorem dX7_readsStep_113 : decode cX7_readsStep 113 = .ok (.iadd, 1) := by decide +kernel
theorem dX7_readsStep_114 : decode cX7_readsStep 114 = .ok (.putfield 90, 3) := by decide +kernel
theorem dX7_readsStep_117 : decode cX7_readsStep 117 = .ok (.iconst 1, 1) := by decide +kernel
theorem dX7_readsStep_118 : decode cX7_readsStep 118 = .ok (.ireturn, 1) := by decide +kernel
set_option maxRecDepth 20000 in
theorem ggX7_readsFunction_X7_codeAt : GoodIn wsX7_readsFunction wsX7_codeAt := goodIn_r _ [11, 2, 12, 25, 26, 27, 28, 29, 30, 31, 32, 33, 34, 35, 36, 37, 38, 39, 40, 41, 42, 43, 44, 45, 46, 47, 48, 49, 50, 51, 52, 53, 54, 55, 56, 57, 58] (by decide +kernel) (by decide +kernel)
set_option maxRecDepth 20000 in
theorem gX7_readsFunction_X7_codeAt : GoodIn wsX7_readsFunction (wsV RX7 93 RX7 yX7_codeAt wsX7_codeAt) := goodIn_app (goodIn_of _ (by decide +kernel)) ggX7_readsFunction_X7_codeAt
set_option maxRecDepth 20000 in
theorem ggX7_readsFunction_X7_in : GoodIn wsX7_readsFunction wsX7_in := goodIn_r _ [15] (by decide +kernel) (by decide +kernel)
set_option maxRecDepth 20000 in
theorem gX7_readsFunction_X7_in : GoodIn wsX7_readsFunction (va_wsS RX7 86 yX7_in wsX7_in) := goodIn_app (goodIn_of _ (by decide +kernel)) ggX7_readsFunction_X7_in
set_option maxRecDepth 20000 in
theorem ggX7_readsFunction_X7_readsStep : GoodIn wsX7_readsFunction wsX7_readsStep := goodIn_r _ [19, 20, 21, 22, 23, 6, 24, 2, 7, 8, 9, 10, 11, 12, 13, 14, 15, 25, 26, 27, 28, 29, 30, 31, 32, 33, 34, 35, 36, 37, 38, 39, 40, 41, 42, 43, 44, 45, 46, 47, 48, 49, 50, 51, 52, 53, 54, 55, 56, 57, 58] (by decide +kernel) (by decide +kernel)
set_option maxRecDepth 20000 in
theorem gX7_readsFunction_X7_readsStep : GoodIn wsX7_readsFunction (wsV RX7 110 RX7 yX7_readsStep wsX7_readsStep) := goodIn_app (goodIn_of _ (by decide +kernel)) ggX7_readsFunction_X7_readsStep
theorem dX7_readsFunction_0 : decode cX7_readsFunction 0 = .ok (.aload_n 0, 1) := by decide +kernel
theorem dX7_readsFunction_1 : decode cX7_readsFunction 1 = .ok (.getfield 105, 3) := by decide +kernel
theorem dX7_readsFunction_4 : decode cX7_readsFunction 4 = .ok (.iconst 5, 1) := by decide +kernel
theorem dX7_readsFunction_5 : decode cX7_readsFunction 5 = .ok (.if_icmp .eq 14, 3) := by decide +kernel
theorem dX7_readsFunction_8 : decode cX7_readsFunction 8 = .ok (.aload_n 0, 1) := by decide +kernel
theorem dX7_readsFunction_9 : decode cX7_readsFunction 9 = .ok (.iload_n 1, 1) := by decide +kernel
theorem dX7_readsFunction_10 : decode cX7_readsFunction 10 = .ok (.iload_n 2, 1) := by decide +kernel
theorem dX7_readsFunction_11 : decode cX7_readsFunction 11 = .ok (.invokevirtual 93, 3) := by decide +kernel
theorem dX7_readsFunction_14 : decode cX7_readsFunction 14 = .ok (.bipush 59, 2) := by decide +kernel
theorem dX7_readsFunction_16 : decode cX7_readsFunction 16 = .ok (.if_icmp .eq 5, 3) := by decide +kernel
theorem dX7_readsFunction_19 : decode cX7_readsFunction 19 = .ok (.iconst 0, 1) := by decide +kernel
theorem dX7_readsFunction_20 : decode cX7_readsFunction 20 = .ok (.ireturn, 1) := by decide +kernel
theorem dX7_readsFunction_21 : decode cX7_readsFunction 21 = .ok (.aload_n 0, 1) := by decide +kernel
theorem dX7_readsFunction_22 : decode cX7_readsFunction 22 = .ok (.dup, 1) := by decide +kernel
theorem dX7_readsFunction_23 : decode cX7_readsFunction 23 = .ok (.getfield 90, 3) := by decide +kernel
theorem dX7_readsFunction_26 : decode cX7_readsFunction 26 = .ok (.iconst 1, 1) := by decide +kernel
theorem dX7_readsFunction_27 : decode cX7_readsFunction 27 = .ok (.iadd, 1) := by decide +kernel
theorem dX7_readsFunction_28 : decode cX7_readsFunction 28 = .ok (.putfield 90, 3) := by decide +kernel
theorem dX7_readsFunction_31 : decode cX7_readsFunction 31 = .ok (.aload_n 0, 1) := by decide +kernel
theorem dX7_readsFunction_32 : decode cX7_readsFunction 32 = .ok (.iload_n 1, 1) := by decide +kernel
theorem dX7_readsFunction_33 : decode cX7_readsFunction 33 = .ok (.iload_n 2, 1) := by decide +kernel
theorem dX7_readsFunction_34 : decode cX7_readsFunction 34 = .ok (.invokevirtual 93, 3) := by decide +kernel
theorem dX7_readsFunction_37 : decode cX7_readsFunction 37 = .ok (.istore_n 3, 1) := by decide +kernel
theorem dX7_readsFunction_38 : decode cX7_readsFunction 38 = .ok (.iload_n 3, 1) := by decide +kernel
theorem dX7_readsFunction_39 : decode cX7_readsFunction 39 = .ok (.bipush 112, 2) := by decide +kernel
theorem dX7_readsFunction_41 : decode cX7_readsFunction 41 = .ok (.if_icmp .eq 17, 3) := by decide +kernel
theorem dX7_readsFunction_44 : decode cX7_readsFunction 44 = .ok (.iload_n 3, 1) := by decide +kernel
theorem dX7_readsFunction_45 : decode cX7_readsFunction 45 = .ok (.bipush 108, 2) := by decide +kernel
theorem dX7_readsFunction_47 : decode cX7_readsFunction 47 = .ok (.if_icmp .eq 11, 3) := by decide +kernel
theorem dX7_readsFunction_50 : decode cX7_readsFunction 50 = .ok (.iload_n 3, 1) := by decide +kernel
theorem dX7_readsFunction_51 : decode cX7_readsFunction 51 = .ok (.bipush 107, 2) := by decide +kernel
theorem dX7_readsFunction_53 : decode cX7_readsFunction 53 = .ok (.if_icmp .eq 5, 3) := by decide +kernel
theorem dX7_readsFunction_56 : decode cX7_readsFunction 56 = .ok (.iconst 0, 1) := by decide +kernel
theorem dX7_readsFunction_57 : decode cX7_readsFunction 57 = .ok (.ireturn, 1) := by decide +kernel
theorem dX7_readsFunction_58 : decode cX7_readsFunction 58 = .ok (.aload_n 0, 1) := by decide +kernel
theorem dX7_readsFunction_59 : decode cX7_readsFunction 59 = .ok (.dup, 1) := by decide +kernel
theorem dX7_readsFunction_60 : decode cX7_readsFunction 60 = .ok (.getfield 90, 3) := by decide +kernel
theorem dX7_readsFunction_63 : decode cX7_readsFunction 63 = .ok (.iconst 1, 1) := by decide +kernel
theorem dX7_readsFunction_64 : decode cX7_readsFunction 64 = .ok (.iadd, 1) := by decide +kernel
theorem dX7_readsFunction_65 : decode cX7_readsFunction 65 = .ok (.putfield 90, 3) := by decide +kernel
theorem dX7_readsFunction_68 : decode cX7_readsFunction 68 = .ok (.aload_n 0, 1) := by decide +kernel
theorem dX7_readsFunction_69 : decode cX7_readsFunction 69 = .ok (.iload_n 1, 1) := by decide +kernel
theorem dX7_readsFunction_70 : decode cX7_readsFunction 70 = .ok (.iload_n 2, 1) := by decide +kernel
theorem dX7_readsFunction_71 : decode cX7_readsFunction 71 = .ok (.invokevirtual 93, 3) := by decide +kernel
theorem dX7_readsFunction_74 : decode cX7_readsFunction 74 = .ok (.bipush 48, 2) := by decide +kernel
theorem dX7_readsFunction_76 : decode cX7_readsFunction 76 = .ok (.isub, 1) := by decide +kernel
theorem dX7_readsFunction_77 : decode cX7_readsFunction 77 = .ok (.istore 4, 2) := by decide +kernel
theorem dX7_readsFunction_79 : decode cX7_readsFunction 79 = .ok (.iload 4, 2) := by decide +kernel
theorem dX7_readsFunction_81 : decode cX7_readsFunction 81 = .ok (.i2l, 1) := by decide +kernel
theorem dX7_readsFunction_82 : decode cX7_readsFunction 82 = .ok (.lconst 0, 1) := by decide +kernel
theorem dX7_readsFunction_83 : decode cX7_readsFunction 83 = .ok (.ldc2_w 108, 3) := by decide +kernel
theorem dX7_readsFunction_86 : decode cX7_readsFunction 86 = .ok (.invokestatic 86, 3) := by decide +kernel
theorem dX7_readsFunction_89 : decode cX7_readsFunction 89 = .ok (.ifCond .ne 5, 3) := by decide +kernel
theorem dX7_readsFunction_92 : decode cX7_readsFunction 92 = .ok (.iconst 0, 1) := by decide +kernel
theorem dX7_readsFunction_93 : decode cX7_readsFunction 93 = .ok (.ireturn, 1) := by decide +kernel
theorem dX7_readsFunction_94 : decode cX7_readsFunction 94 = .ok (.aload_n 0, 1) := by decide +kernel
theorem dX7_readsFunction_95 : decode cX7_readsFunction 95 = .ok (.dup, 1) := by decide +kernel
theorem dX7_readsFunction_96 : decode cX7_readsFunction 96 = .ok (.getfield 90, 3) := by decide +kernel
theorem dX7_readsFunction_99 : decode cX7_readsFunction 99 = .ok (.iconst 1, 1) := by decide +kernel
theorem dX7_readsFunction_100 : decode cX7_readsFunction 100 = .ok (.iadd, 1) := by decide +kernel
theorem dX7_readsFunction_101 : decode cX7_readsFunction 101 = .ok (.putfield 90, 3) := by decide +kernel
theorem dX7_readsFunction_104 : decode cX7_readsFunction 104 = .ok (.aload_n 0, 1) := by decide +kernel
theorem dX7_readsFunction_105 : decode cX7_readsFunction 105 = .ok (.getfield 105, 3) := by decide +kernel
theorem dX7_readsFunction_108 : decode cX7_readsFunction 108 = .ok (.istore 5, 2) := by decide +kernel
theorem dX7_readsFunction_110 : decode cX7_readsFunction 110 = .ok (.aload_n 0, 1) := by decide +kernel
theorem dX7_readsFunction_111 : decode cX7_readsFunction 111 = .ok (.getfield 22, 3) := by decide +kernel
theorem dX7_readsFunction_114 : decode cX7_readsFunction 114 = .ok (.iload 5, 2) := by decide +kernel
theorem dX7_readsFunction_116 : decode cX7_readsFunction 116 = .ok (.iload_n 3, 1) := by decide +kernel
theorem dX7_readsFunction_117 : decode cX7_readsFunction 117 = .ok (.bipush 112, 2) := by decide +kernel
theorem dX7_readsFunction_119 : decode cX7_readsFunction 119 = .ok (.if_icmp .ne 7, 3) := by decide +kernel
theorem dX7_readsFunction_122 : decode cX7_readsFunction 122 = .ok (.iconst 0, 1) := by decide +kernel
theorem dX7_readsFunction_123 : decode cX7_readsFunction 123 = .ok (.goto 14, 3) := by decide +kernel
theorem dX7_readsFunction_126 : decode cX7_readsFunction 126 = .ok (.iload_n 3, 1) := by decide +kernel
theorem dX7_readsFunction_127 : decode cX7_readsFunction 127 = .ok (.bipush 108, 2) := by decide +kernel
theorem dX7_readsFunction_129 : decode cX7_readsFunction 129 = .ok (.if_icmp .ne 7, 3) := by decide +kernel
theorem dX7_readsFunction_132 : decode cX7_readsFunction 132 = .ok (.iconst 1, 1) := by decide +kernel
theorem dX7_readsFunction_133 : decode cX7_readsFunction 133 = .ok (.goto 4, 3) := by decide +kernel
theorem dX7_readsFunction_136 : decode cX7_readsFunction 136 = .ok (.iconst 2, 1) := by decide +kernel
theorem dX7_readsFunction_137 : decode cX7_readsFunction 137 = .ok (.iastore, 1) := by decide +kernel
theorem dX7_readsFunction_138 : decode cX7_readsFunction 138 = .ok (.aload_n 0, 1) := by decide +kernel
theorem dX7_readsFunction_139 : decode cX7_readsFunction 139 = .ok (.getfield 25, 3) := by decide +kernel
theorem dX7_readsFunction_142 : decode cX7_readsFunction 142 = .ok (.iload 5, 2) := by decide +kernel
theorem dX7_readsFunction_144 : decode cX7_readsFunction 144 = .ok (.iload 4, 2) := by decide +kernel
theorem dX7_readsFunction_146 : decode cX7_readsFunction 146 = .ok (.iastore, 1) := by decide +kernel
theorem dX7_readsFunction_147 : decode cX7_readsFunction 147 = .ok (.aload_n 0, 1) := by decide +kernel
theorem dX7_readsFunction_148 : decode cX7_readsFunction 148 = .ok (.getfield 28, 3) := by decide +kernel
theorem dX7_readsFunction_151 : decode cX7_readsFunction 151 = .ok (.iload 5, 2) := by decide +kernel
theorem dX7_readsFunction_153 : decode cX7_readsFunction 153 = .ok (.iconst 0, 1) := by decide +kernel
theorem dX7_readsFunction_154 : decode cX7_readsFunction 154 = .ok (.iastore, 1) := by decide +kernel
theorem dX7_readsFunction_155 : decode cX7_readsFunction 155 = .ok (.iconst 1, 1) := by decide +kernel
theorem dX7_readsFunction_156 : decode cX7_readsFunction 156 = .ok (.istore 6, 2) := by decide +kernel
theorem dX7_readsFunction_158 : decode cX7_readsFunction 158 = .ok (.iload 6, 2) := by decide +kernel
theorem dX7_readsFunction_160 : decode cX7_readsFunction 160 = .ok (.ifCond .eq 16, 3) := by decide +kernel
theorem dX7_readsFunction_163 : decode cX7_readsFunction 163 = .ok (.aload_n 0, 1) := by decide +kernel
theorem dX7_readsFunction_164 : decode cX7_readsFunction 164 = .ok (.iload_n 1, 1) := by decide +kernel
theorem dX7_readsFunction_165 : decode cX7_readsFunction 165 = .ok (.iload_n 2, 1) := by decide +kernel
theorem dX7_readsFunction_166 : decode cX7_readsFunction 166 = .ok (.iload 5, 2) := by decide +kernel
theorem dX7_readsFunction_168 : decode cX7_readsFunction 168 = .ok (.invokevirtual 110, 3) := by decide +kernel
theorem dX7_readsFunction_171 : decode cX7_readsFunction 171 = .ok (.istore 6, 2) := by decide +kernel
theorem dX7_readsFunction_173 : decode cX7_readsFunction 173 = .ok (.goto (-15), 3) := by decide +kernel
theorem dX7_readsFunction_176 : decode cX7_readsFunction 176 = .ok (.aload_n 0, 1) := by decide +kernel
theorem dX7_readsFunction_177 : decode cX7_readsFunction 177 = .ok (.dup, 1) := by decide +kernel
theorem dX7_readsFunction_178 : decode cX7_readsFunction 178 = .ok (.getfield 105, 3) := by decide +kernel
theorem dX7_readsFunction_181 : decode cX7_readsFunction 181 = .ok (.iconst 1, 1) := by decide +kernel
theorem dX7_readsFunction_182 : decode cX7_readsFunction 182 = .ok (.iadd, 1) := by decide +kernel
theorem dX7_readsFunction_183 : decode cX7_readsFunction 183 = .ok (.putfield 105, 3) := by decide +kernel
theorem dX7_readsFunction_186 : decode cX7_readsFunction 186 = .ok (.iconst 1, 1) := by decide +kernel
theorem dX7_readsFunction_187 : decode cX7_readsFunction 187 = .ok (.ireturn, 1) := by decide +kernel
set_option maxRecDepth 20000 in
theorem ggX7_readsProgram_X7_codeAt : GoodIn wsX7_readsProgram wsX7_codeAt := goodIn_r _ [7, 1, 8, 29, 30, 31, 32, 33, 34, 35, 36, 37, 38, 39, 40, 41, 42, 43, 44, 45, 46, 47, 48, 49, 50, 51, 52, 53, 54, 55, 56, 57, 58, 59, 60, 61, 62] (by decide +kernel) (by decide +kernel)
set_option maxRecDepth 20000 in
theorem gX7_readsProgram_X7_codeAt : GoodIn wsX7_readsProgram (wsV RX7 93 RX7 yX7_codeAt wsX7_codeAt) := goodIn_app (goodIn_of _ (by decide +kernel)) ggX7_readsProgram_X7_codeAt
set_option maxRecDepth 20000 in
theorem ggX7_readsProgram_X7_readsFunction : GoodIn wsX7_readsProgram wsX7_readsFunction := goodIn_r _ [12, 2, 1, 13, 14, 15, 16, 3, 4, 5, 6, 7, 8, 17, 18, 19, 20, 21, 22, 23, 24, 25, 26, 27, 28, 29, 30, 31, 32, 33, 34, 35, 36, 37, 38, 39, 40, 41, 42, 43, 44, 45, 46, 47, 48, 49, 50, 51, 52, 53, 54, 55, 56, 57, 58, 59, 60, 61, 62] (by decide +kernel) (by decide +kernel)
set_option maxRecDepth 20000 in
theorem gX7_readsProgram_X7_readsFunction : GoodIn wsX7_readsProgram (wsV RX7 114 RX7 yX7_readsFunction wsX7_readsFunction) := goodIn_app (goodIn_of _ (by decide +kernel)) ggX7_readsProgram_X7_readsFunction
theorem dX7_readsProgram_0 : decode cX7_readsProgram 0 = .ok (.aload_n 0, 1) := by decide +kernel
theorem dX7_readsProgram_1 : decode cX7_readsProgram 1 = .ok (.iconst 0, 1) := by decide +kernel
theorem dX7_readsProgram_2 : decode cX7_readsProgram 2 = .ok (.putfield 90, 3) := by decide +kernel
theorem dX7_readsProgram_5 : decode cX7_readsProgram 5 = .ok (.aload_n 0, 1) := by decide +kernel
theorem dX7_readsProgram_6 : decode cX7_readsProgram 6 = .ok (.iconst 0, 1) := by decide +kernel
theorem dX7_readsProgram_7 : decode cX7_readsProgram 7 = .ok (.putfield 105, 3) := by decide +kernel
theorem dX7_readsProgram_10 : decode cX7_readsProgram 10 = .ok (.aload_n 0, 1) := by decide +kernel
theorem dX7_readsProgram_11 : decode cX7_readsProgram 11 = .ok (.iload_n 1, 1) := by decide +kernel
theorem dX7_readsProgram_12 : decode cX7_readsProgram 12 = .ok (.iload_n 2, 1) := by decide +kernel
theorem dX7_readsProgram_13 : decode cX7_readsProgram 13 = .ok (.invokevirtual 93, 3) := by decide +kernel
theorem dX7_readsProgram_16 : decode cX7_readsProgram 16 = .ok (.bipush 101, 2) := by decide +kernel
theorem dX7_readsProgram_18 : decode cX7_readsProgram 18 = .ok (.if_icmp .eq 5, 3) := by decide +kernel
theorem dX7_readsProgram_21 : decode cX7_readsProgram 21 = .ok (.iconst 0, 1) := by decide +kernel
theorem dX7_readsProgram_22 : decode cX7_readsProgram 22 = .ok (.ireturn, 1) := by decide +kernel
theorem dX7_readsProgram_23 : decode cX7_readsProgram 23 = .ok (.aload_n 0, 1) := by decide +kernel
theorem dX7_readsProgram_24 : decode cX7_readsProgram 24 = .ok (.dup, 1) := by decide +kernel
theorem dX7_readsProgram_25 : decode cX7_readsProgram 25 = .ok (.getfield 90, 3) := by decide +kernel
theorem dX7_readsProgram_28 : decode cX7_readsProgram 28 = .ok (.iconst 1, 1) := by decide +kernel
theorem dX7_readsProgram_29 : decode cX7_readsProgram 29 = .ok (.iadd, 1) := by decide +kernel
theorem dX7_readsProgram_30 : decode cX7_readsProgram 30 = .ok (.putfield 90, 3) := by decide +kernel
theorem dX7_readsProgram_33 : decode cX7_readsProgram 33 = .ok (.iconst 1, 1) := by decide +kernel
theorem dX7_readsProgram_34 : decode cX7_readsProgram 34 = .ok (.istore_n 3, 1) := by decide +kernel
theorem dX7_readsProgram_35 : decode cX7_readsProgram 35 = .ok (.iload_n 3, 1) := by decide +kernel
theorem dX7_readsProgram_36 : decode cX7_readsProgram 36 = .ok (.ifCond .eq 29, 3) := by decide +kernel
theorem dX7_readsProgram_39 : decode cX7_readsProgram 39 = .ok (.aload_n 0, 1) := by decide +kernel
theorem dX7_readsProgram_40 : decode cX7_readsProgram 40 = .ok (.getfield 105, 3) := by decide +kernel
theorem dX7_readsProgram_43 : decode cX7_readsProgram 43 = .ok (.iconst 1, 1) := by decide +kernel
theorem dX7_readsProgram_44 : decode cX7_readsProgram 44 = .ok (.if_icmp .lt 11, 3) := by decide +kernel
theorem dX7_readsProgram_47 : decode cX7_readsProgram 47 = .ok (.aload_n 0, 1) := by decide +kernel
theorem dX7_readsProgram_48 : decode cX7_readsProgram 48 = .ok (.getfield 90, 3) := by decide +kernel
theorem dX7_readsProgram_51 : decode cX7_readsProgram 51 = .ok (.iload_n 2, 1) := by decide +kernel
theorem dX7_readsProgram_52 : decode cX7_readsProgram 52 = .ok (.if_icmp .ge 13, 3) := by decide +kernel
theorem dX7_readsProgram_55 : decode cX7_readsProgram 55 = .ok (.aload_n 0, 1) := by decide +kernel
theorem dX7_readsProgram_56 : decode cX7_readsProgram 56 = .ok (.iload_n 1, 1) := by decide +kernel
theorem dX7_readsProgram_57 : decode cX7_readsProgram 57 = .ok (.iload_n 2, 1) := by decide +kernel
theorem dX7_readsProgram_58 : decode cX7_readsProgram 58 = .ok (.invokevirtual 114, 3) := by decide +kernel
theorem dX7_readsProgram_61 : decode cX7_readsProgram 61 = .ok (.istore_n 3, 1) := by decide +kernel
theorem dX7_readsProgram_62 : decode cX7_readsProgram 62 = .ok (.goto (-27), 3) := by decide +kernel
theorem dX7_readsProgram_65 : decode cX7_readsProgram 65 = .ok (.iload_n 3, 1) := by decide +kernel
theorem dX7_readsProgram_66 : decode cX7_readsProgram 66 = .ok (.ireturn, 1) := by decide +kernel
set_option maxRecDepth 20000 in
theorem ggX7_cellsBarred_X7_failed : GoodIn wsX7_cellsBarred wsX7_failed := goodIn_r _ [7, 8, 12, 13, 14, 15, 16, 17, 18, 19, 20, 21, 22, 23, 24, 25, 26, 27, 28, 29, 30, 31, 32, 33, 34, 35, 36, 37, 38, 39, 40, 41, 42, 43, 44, 45] (by decide +kernel) (by decide +kernel)
set_option maxRecDepth 20000 in
theorem gX7_cellsBarred_X7_failed : GoodIn wsX7_cellsBarred (wsV RX7 118 RX7 yX7_failed wsX7_failed) := goodIn_app (goodIn_of _ (by decide +kernel)) ggX7_cellsBarred_X7_failed
set_option maxRecDepth 20000 in
theorem ggX7_cellsBarred_X7_isBeyond : GoodIn wsX7_cellsBarred wsX7_isBeyond := goodIn_r _ [11] (by decide +kernel) (by decide +kernel)
set_option maxRecDepth 20000 in
theorem gX7_cellsBarred_X7_isBeyond : GoodIn wsX7_cellsBarred (va_wsS RX7 122 yX7_isBeyond wsX7_isBeyond) := goodIn_app (goodIn_of _ (by decide +kernel)) ggX7_cellsBarred_X7_isBeyond
theorem dX7_cellsBarred_0 : decode cX7_cellsBarred 0 = .ok (.aload_n 0, 1) := by decide +kernel
theorem dX7_cellsBarred_1 : decode cX7_cellsBarred 1 = .ok (.getfield 61, 3) := by decide +kernel
theorem dX7_cellsBarred_4 : decode cX7_cellsBarred 4 = .ok (.iload_n 1, 1) := by decide +kernel
theorem dX7_cellsBarred_5 : decode cX7_cellsBarred 5 = .ok (.iaload, 1) := by decide +kernel
theorem dX7_cellsBarred_6 : decode cX7_cellsBarred 6 = .ok (.ifCond .lt 19, 3) := by decide +kernel
theorem dX7_cellsBarred_9 : decode cX7_cellsBarred 9 = .ok (.aload_n 0, 1) := by decide +kernel
theorem dX7_cellsBarred_10 : decode cX7_cellsBarred 10 = .ok (.getfield 64, 3) := by decide +kernel
theorem dX7_cellsBarred_13 : decode cX7_cellsBarred 13 = .ok (.iload_n 1, 1) := by decide +kernel
theorem dX7_cellsBarred_14 : decode cX7_cellsBarred 14 = .ok (.iaload, 1) := by decide +kernel
theorem dX7_cellsBarred_15 : decode cX7_cellsBarred 15 = .ok (.iload_n 2, 1) := by decide +kernel
theorem dX7_cellsBarred_16 : decode cX7_cellsBarred 16 = .ok (.if_icmp .eq 9, 3) := by decide +kernel
theorem dX7_cellsBarred_19 : decode cX7_cellsBarred 19 = .ok (.aload_n 0, 1) := by decide +kernel
theorem dX7_cellsBarred_20 : decode cX7_cellsBarred 20 = .ok (.iconst 2, 1) := by decide +kernel
theorem dX7_cellsBarred_21 : decode cX7_cellsBarred 21 = .ok (.invokevirtual 118, 3) := by decide +kernel
theorem dX7_cellsBarred_24 : decode cX7_cellsBarred 24 = .ok (.ireturn, 1) := by decide +kernel
theorem dX7_cellsBarred_25 : decode cX7_cellsBarred 25 = .ok (.aload_n 0, 1) := by decide +kernel
theorem dX7_cellsBarred_26 : decode cX7_cellsBarred 26 = .ok (.getfield 61, 3) := by decide +kernel
theorem dX7_cellsBarred_29 : decode cX7_cellsBarred 29 = .ok (.iload_n 1, 1) := by decide +kernel
theorem dX7_cellsBarred_30 : decode cX7_cellsBarred 30 = .ok (.iaload, 1) := by decide +kernel
theorem dX7_cellsBarred_31 : decode cX7_cellsBarred 31 = .ok (.ifCond .ge 9, 3) := by decide +kernel
theorem dX7_cellsBarred_34 : decode cX7_cellsBarred 34 = .ok (.aload_n 0, 1) := by decide +kernel
theorem dX7_cellsBarred_35 : decode cX7_cellsBarred 35 = .ok (.iconst 1, 1) := by decide +kernel
theorem dX7_cellsBarred_36 : decode cX7_cellsBarred 36 = .ok (.invokevirtual 118, 3) := by decide +kernel
theorem dX7_cellsBarred_39 : decode cX7_cellsBarred 39 = .ok (.ireturn, 1) := by decide +kernel
theorem dX7_cellsBarred_40 : decode cX7_cellsBarred 40 = .ok (.lload 4, 2) := by decide +kernel
theorem dX7_cellsBarred_42 : decode cX7_cellsBarred 42 = .ok (.lconst 0, 1) := by decide +kernel
theorem dX7_cellsBarred_43 : decode cX7_cellsBarred 43 = .ok (.lcmp, 1) := by decide +kernel
theorem dX7_cellsBarred_44 : decode cX7_cellsBarred 44 = .ok (.ifCond .ge 9, 3) := by decide +kernel
theorem dX7_cellsBarred_47 : decode cX7_cellsBarred 47 = .ok (.aload_n 0, 1) := by decide +kernel
theorem dX7_cellsBarred_48 : decode cX7_cellsBarred 48 = .ok (.iconst 4, 1) := by decide +kernel
theorem dX7_cellsBarred_49 : decode cX7_cellsBarred 49 = .ok (.invokevirtual 118, 3) := by decide +kernel
theorem dX7_cellsBarred_52 : decode cX7_cellsBarred 52 = .ok (.ireturn, 1) := by decide +kernel
theorem dX7_cellsBarred_53 : decode cX7_cellsBarred 53 = .ok (.iload_n 3, 1) := by decide +kernel
theorem dX7_cellsBarred_54 : decode cX7_cellsBarred 54 = .ok (.lload 4, 2) := by decide +kernel
theorem dX7_cellsBarred_56 : decode cX7_cellsBarred 56 = .ok (.aload_n 0, 1) := by decide +kernel
theorem dX7_cellsBarred_57 : decode cX7_cellsBarred 57 = .ok (.getfield 61, 3) := by decide +kernel
theorem dX7_cellsBarred_60 : decode cX7_cellsBarred 60 = .ok (.iload_n 1, 1) := by decide +kernel
theorem dX7_cellsBarred_61 : decode cX7_cellsBarred 61 = .ok (.iaload, 1) := by decide +kernel
theorem dX7_cellsBarred_62 : decode cX7_cellsBarred 62 = .ok (.invokestatic 122, 3) := by decide +kernel
theorem dX7_cellsBarred_65 : decode cX7_cellsBarred 65 = .ok (.ifCond .eq 11, 3) := by decide +kernel
theorem dX7_cellsBarred_68 : decode cX7_cellsBarred 68 = .ok (.aload_n 0, 1) := by decide +kernel
theorem dX7_cellsBarred_69 : decode cX7_cellsBarred 69 = .ok (.iconst 3, 1) := by decide +kernel
theorem dX7_cellsBarred_70 : decode cX7_cellsBarred 70 = .ok (.invokevirtual 118, 3) := by decide +kernel
theorem dX7_cellsBarred_73 : decode cX7_cellsBarred 73 = .ok (.goto 4, 3) := by decide +kernel
theorem dX7_cellsBarred_76 : decode cX7_cellsBarred 76 = .ok (.iconst 0, 1) := by decide +kernel
theorem dX7_cellsBarred_77 : decode cX7_cellsBarred 77 = .ok (.ireturn, 1) := by decide +kernel
set_option maxRecDepth 20000 in
theorem ggX7_program_X7_noSheet : GoodIn wsX7_program wsX7_noSheet := goodIn_r _ [18, 19, 20, 21, 17, 22] (by decide +kernel) (by decide +kernel)
set_option maxRecDepth 20000 in
theorem gX7_program_X7_noSheet : GoodIn wsX7_program (va_wsS RX7 126 yX7_noSheet wsX7_noSheet) := goodIn_app (goodIn_of _ (by decide +kernel)) ggX7_program_X7_noSheet
set_option maxRecDepth 20000 in
theorem ggX7_program_X7_refused : GoodIn wsX7_program wsX7_refused := goodIn_r _ [26, 27, 62, 63, 64, 65, 66, 67, 68, 69, 70, 71, 72, 73, 74, 75, 76, 77, 78, 79, 80, 81, 82, 83, 84, 85, 86, 87, 88, 89, 90, 91, 92, 93, 94, 95] (by decide +kernel) (by decide +kernel)
set_option maxRecDepth 20000 in
theorem gX7_program_X7_refused : GoodIn wsX7_program (wsV RX7 130 RX7 yX7_refused wsX7_refused) := goodIn_app (goodIn_of _ (by decide +kernel)) ggX7_program_X7_refused
set_option maxRecDepth 20000 in
theorem ggX7_program_X7_in : GoodIn wsX7_program wsX7_in := goodIn_r _ [22] (by decide +kernel) (by decide +kernel)
set_option maxRecDepth 20000 in
theorem gX7_program_X7_in : GoodIn wsX7_program (va_wsS RX7 86 yX7_in wsX7_in) := goodIn_app (goodIn_of _ (by decide +kernel)) ggX7_program_X7_in
set_option maxRecDepth 20000 in
theorem ggX7_program_X7_cellsBarred : GoodIn wsX7_program wsX7_cellsBarred := goodIn_r _ [31, 32, 33, 34, 35, 36, 17, 37, 27, 38, 39, 40, 62, 63, 64, 65, 66, 67, 68, 69, 70, 71, 72, 73, 74, 75, 76, 77, 78, 79, 80, 81, 82, 83, 84, 85, 86, 87, 88, 89, 90, 91, 92, 93, 94, 95] (by decide +kernel) (by decide +kernel)
set_option maxRecDepth 20000 in
theorem gX7_program_X7_cellsBarred : GoodIn wsX7_program (wsV RX7 135 RX7 yX7_cellsBarred wsX7_cellsBarred) := goodIn_app (goodIn_of _ (by decide +kernel)) ggX7_program_X7_cellsBarred
set_option maxRecDepth 20000 in
theorem ggX7_program_X7_readsProgram : GoodIn wsX7_program wsX7_readsProgram := goodIn_r _ [44, 2, 3, 45, 46, 47, 17, 48, 49, 50, 51, 52, 53, 19, 7, 9, 11, 20, 21, 22, 54, 55, 56, 57, 58, 59, 60, 61, 13, 62, 63, 64, 65, 66, 67, 68, 69, 70, 71, 72, 73, 74, 75, 76, 77, 78, 79, 80, 81, 82, 83, 84, 85, 86, 87, 88, 89, 90, 91, 92, 93, 94, 95] (by decide +kernel) (by decide +kernel)
set_option maxRecDepth 20000 in
theorem gX7_program_X7_readsProgram : GoodIn wsX7_program (wsV RX7 139 RX7 yX7_readsProgram wsX7_readsProgram) := goodIn_app (goodIn_of _ (by decide +kernel)) ggX7_program_X7_readsProgram
theorem dX7_program_0 : decode cX7_program 0 = .ok (.iload_n 1, 1) := by decide +kernel
theorem dX7_program_1 : decode cX7_program 1 = .ok (.invokestatic 126, 3) := by decide +kernel
theorem dX7_program_4 : decode cX7_program 4 = .ok (.ifCond .eq 9, 3) := by decide +kernel
theorem dX7_program_7 : decode cX7_program 7 = .ok (.aload_n 0, 1) := by decide +kernel
theorem dX7_program_8 : decode cX7_program 8 = .ok (.iconst (-1), 1) := by decide +kernel
theorem dX7_program_9 : decode cX7_program 9 = .ok (.invokevirtual 130, 3) := by decide +kernel
theorem dX7_program_12 : decode cX7_program 12 = .ok (.ireturn, 1) := by decide +kernel
theorem dX7_program_13 : decode cX7_program 13 = .ok (.iload_n 2, 1) := by decide +kernel
theorem dX7_program_14 : decode cX7_program 14 = .ok (.i2l, 1) := by decide +kernel
theorem dX7_program_15 : decode cX7_program 15 = .ok (.lconst 0, 1) := by decide +kernel
theorem dX7_program_16 : decode cX7_program 16 = .ok (.ldc2_w 133, 3) := by decide +kernel
theorem dX7_program_19 : decode cX7_program 19 = .ok (.invokestatic 86, 3) := by decide +kernel
theorem dX7_program_22 : decode cX7_program 22 = .ok (.ifCond .ne 10, 3) := by decide +kernel
theorem dX7_program_25 : decode cX7_program 25 = .ok (.aload_n 0, 1) := by decide +kernel
theorem dX7_program_26 : decode cX7_program 26 = .ok (.bipush (-2), 2) := by decide +kernel
theorem dX7_program_28 : decode cX7_program 28 = .ok (.invokevirtual 130, 3) := by decide +kernel
theorem dX7_program_31 : decode cX7_program 31 = .ok (.ireturn, 1) := by decide +kernel
theorem dX7_program_32 : decode cX7_program 32 = .ok (.aload_n 0, 1) := by decide +kernel
theorem dX7_program_33 : decode cX7_program 33 = .ok (.iload_n 1, 1) := by decide +kernel
theorem dX7_program_34 : decode cX7_program 34 = .ok (.iload_n 2, 1) := by decide +kernel
theorem dX7_program_35 : decode cX7_program 35 = .ok (.iload_n 3, 1) := by decide +kernel
theorem dX7_program_36 : decode cX7_program 36 = .ok (.iload 4, 2) := by decide +kernel
theorem dX7_program_38 : decode cX7_program 38 = .ok (.i2l, 1) := by decide +kernel
theorem dX7_program_39 : decode cX7_program 39 = .ok (.invokevirtual 135, 3) := by decide +kernel
theorem dX7_program_42 : decode cX7_program 42 = .ok (.istore 5, 2) := by decide +kernel
theorem dX7_program_44 : decode cX7_program 44 = .ok (.iload 5, 2) := by decide +kernel
theorem dX7_program_46 : decode cX7_program 46 = .ok (.ifCond .ge 6, 3) := by decide +kernel
theorem dX7_program_49 : decode cX7_program 49 = .ok (.iload 5, 2) := by decide +kernel
theorem dX7_program_51 : decode cX7_program 51 = .ok (.ireturn, 1) := by decide +kernel
theorem dX7_program_52 : decode cX7_program 52 = .ok (.aload_n 0, 1) := by decide +kernel
theorem dX7_program_53 : decode cX7_program 53 = .ok (.bipush 60, 2) := by decide +kernel
theorem dX7_program_55 : decode cX7_program 55 = .ok (.iload_n 1, 1) := by decide +kernel
theorem dX7_program_56 : decode cX7_program 56 = .ok (.imul, 1) := by decide +kernel
theorem dX7_program_57 : decode cX7_program 57 = .ok (.iload_n 3, 1) := by decide +kernel
theorem dX7_program_58 : decode cX7_program 58 = .ok (.iadd, 1) := by decide +kernel
theorem dX7_program_59 : decode cX7_program 59 = .ok (.iload 4, 2) := by decide +kernel
theorem dX7_program_61 : decode cX7_program 61 = .ok (.invokevirtual 139, 3) := by decide +kernel
theorem dX7_program_64 : decode cX7_program 64 = .ok (.ifCond .ne 15, 3) := by decide +kernel
theorem dX7_program_67 : decode cX7_program 67 = .ok (.aload_n 0, 1) := by decide +kernel
theorem dX7_program_68 : decode cX7_program 68 = .ok (.bipush (-100), 2) := by decide +kernel
theorem dX7_program_70 : decode cX7_program 70 = .ok (.aload_n 0, 1) := by decide +kernel
theorem dX7_program_71 : decode cX7_program 71 = .ok (.getfield 90, 3) := by decide +kernel
theorem dX7_program_74 : decode cX7_program 74 = .ok (.isub, 1) := by decide +kernel
theorem dX7_program_75 : decode cX7_program 75 = .ok (.invokevirtual 130, 3) := by decide +kernel
theorem dX7_program_78 : decode cX7_program 78 = .ok (.ireturn, 1) := by decide +kernel
theorem dX7_program_79 : decode cX7_program 79 = .ok (.aload_n 0, 1) := by decide +kernel
theorem dX7_program_80 : decode cX7_program 80 = .ok (.aload_n 0, 1) := by decide +kernel
theorem dX7_program_81 : decode cX7_program 81 = .ok (.getfield 105, 3) := by decide +kernel
theorem dX7_program_84 : decode cX7_program 84 = .ok (.putfield 83, 3) := by decide +kernel
theorem dX7_program_87 : decode cX7_program 87 = .ok (.aload_n 0, 1) := by decide +kernel
theorem dX7_program_88 : decode cX7_program 88 = .ok (.bipush 15, 2) := by decide +kernel
theorem dX7_program_90 : decode cX7_program 90 = .ok (.putfield 142, 3) := by decide +kernel
theorem dX7_program_93 : decode cX7_program 93 = .ok (.iconst 0, 1) := by decide +kernel
theorem dX7_program_94 : decode cX7_program 94 = .ok (.istore 6, 2) := by decide +kernel
theorem dX7_program_96 : decode cX7_program 96 = .ok (.iload 6, 2) := by decide +kernel
theorem dX7_program_98 : decode cX7_program 98 = .ok (.aload_n 0, 1) := by decide +kernel
theorem dX7_program_99 : decode cX7_program 99 = .ok (.getfield 83, 3) := by decide +kernel
theorem dX7_program_102 : decode cX7_program 102 = .ok (.if_icmp .ge 96, 3) := by decide +kernel
theorem dX7_program_105 : decode cX7_program 105 = .ok (.aload_n 0, 1) := by decide +kernel
theorem dX7_program_106 : decode cX7_program 106 = .ok (.getfield 7, 3) := by decide +kernel
theorem dX7_program_109 : decode cX7_program 109 = .ok (.iload 6, 2) := by decide +kernel
theorem dX7_program_111 : decode cX7_program 111 = .ok (.aload_n 0, 1) := by decide +kernel
theorem dX7_program_112 : decode cX7_program 112 = .ok (.getfield 22, 3) := by decide +kernel
theorem dX7_program_115 : decode cX7_program 115 = .ok (.iload 6, 2) := by decide +kernel
theorem dX7_program_117 : decode cX7_program 117 = .ok (.iaload, 1) := by decide +kernel
theorem dX7_program_118 : decode cX7_program 118 = .ok (.iastore, 1) := by decide +kernel
theorem dX7_program_119 : decode cX7_program 119 = .ok (.aload_n 0, 1) := by decide +kernel
theorem dX7_program_120 : decode cX7_program 120 = .ok (.getfield 13, 3) := by decide +kernel
theorem dX7_program_123 : decode cX7_program 123 = .ok (.iload 6, 2) := by decide +kernel
theorem dX7_program_125 : decode cX7_program 125 = .ok (.aload_n 0, 1) := by decide +kernel
theorem dX7_program_126 : decode cX7_program 126 = .ok (.getfield 25, 3) := by decide +kernel
theorem dX7_program_129 : decode cX7_program 129 = .ok (.iload 6, 2) := by decide +kernel
theorem dX7_program_131 : decode cX7_program 131 = .ok (.iaload, 1) := by decide +kernel
theorem dX7_program_132 : decode cX7_program 132 = .ok (.iastore, 1) := by decide +kernel
theorem dX7_program_133 : decode cX7_program 133 = .ok (.aload_n 0, 1) := by decide +kernel
theorem dX7_program_134 : decode cX7_program 134 = .ok (.getfield 16, 3) := by decide +kernel
theorem dX7_program_137 : decode cX7_program 137 = .ok (.iload 6, 2) := by decide +kernel
theorem dX7_program_139 : decode cX7_program 139 = .ok (.aload_n 0, 1) := by decide +kernel
theorem dX7_program_140 : decode cX7_program 140 = .ok (.getfield 28, 3) := by decide +kernel
theorem dX7_program_143 : decode cX7_program 143 = .ok (.iload 6, 2) := by decide +kernel
theorem dX7_program_145 : decode cX7_program 145 = .ok (.iaload, 1) := by decide +kernel
theorem dX7_program_146 : decode cX7_program 146 = .ok (.iastore, 1) := by decide +kernel
theorem dX7_program_147 : decode cX7_program 147 = .ok (.iconst 0, 1) := by decide +kernel
theorem dX7_program_148 : decode cX7_program 148 = .ok (.istore 7, 2) := by decide +kernel
theorem dX7_program_150 : decode cX7_program 150 = .ok (.iload 7, 2) := by decide +kernel
theorem dX7_program_152 : decode cX7_program 152 = .ok (.aload_n 0, 1) := by decide +kernel
theorem dX7_program_153 : decode cX7_program 153 = .ok (.getfield 16, 3) := by decide +kernel
theorem dX7_program_156 : decode cX7_program 156 = .ok (.iload 6, 2) := by decide +kernel
theorem dX7_program_158 : decode cX7_program 158 = .ok (.iaload, 1) := by decide +kernel
theorem dX7_program_159 : decode cX7_program 159 = .ok (.if_icmp .ge 33, 3) := by decide +kernel
theorem dX7_program_162 : decode cX7_program 162 = .ok (.aload_n 0, 1) := by decide +kernel
theorem dX7_program_163 : decode cX7_program 163 = .ok (.getfield 19, 3) := by decide +kernel
theorem dX7_program_166 : decode cX7_program 166 = .ok (.iconst 4, 1) := by decide +kernel
theorem dX7_program_167 : decode cX7_program 167 = .ok (.iload 6, 2) := by decide +kernel
theorem dX7_program_169 : decode cX7_program 169 = .ok (.imul, 1) := by decide +kernel
theorem dX7_program_170 : decode cX7_program 170 = .ok (.iload 7, 2) := by decide +kernel
theorem dX7_program_172 : decode cX7_program 172 = .ok (.iadd, 1) := by decide +kernel
theorem dX7_program_173 : decode cX7_program 173 = .ok (.aload_n 0, 1) := by decide +kernel
theorem dX7_program_174 : decode cX7_program 174 = .ok (.getfield 31, 3) := by decide +kernel
theorem dX7_program_177 : decode cX7_program 177 = .ok (.iconst 4, 1) := by decide +kernel
theorem dX7_program_178 : decode cX7_program 178 = .ok (.iload 6, 2) := by decide +kernel
theorem dX7_program_180 : decode cX7_program 180 = .ok (.imul, 1) := by decide +kernel
theorem dX7_program_181 : decode cX7_program 181 = .ok (.iload 7, 2) := by decide +kernel
theorem dX7_program_183 : decode cX7_program 183 = .ok (.iadd, 1) := by decide +kernel
theorem dX7_program_184 : decode cX7_program 184 = .ok (.iaload, 1) := by decide +kernel
theorem dX7_program_185 : decode cX7_program 185 = .ok (.iastore, 1) := by decide +kernel
theorem dX7_program_186 : decode cX7_program 186 = .ok (.iinc 7 1, 3) := by decide +kernel
theorem dX7_program_189 : decode cX7_program 189 = .ok (.goto (-39), 3) := by decide +kernel
theorem dX7_program_192 : decode cX7_program 192 = .ok (.iinc 6 1, 3) := by decide +kernel
theorem dX7_program_195 : decode cX7_program 195 = .ok (.goto (-99), 3) := by decide +kernel
theorem dX7_program_198 : decode cX7_program 198 = .ok (.aload_n 0, 1) := by decide +kernel
theorem dX7_program_199 : decode cX7_program 199 = .ok (.iconst 0, 1) := by decide +kernel
theorem dX7_program_200 : decode cX7_program 200 = .ok (.putfield 145, 3) := by decide +kernel
theorem dX7_program_203 : decode cX7_program 203 = .ok (.aload_n 0, 1) := by decide +kernel
theorem dX7_program_204 : decode cX7_program 204 = .ok (.aload_n 0, 1) := by decide +kernel
theorem dX7_program_205 : decode cX7_program 205 = .ok (.getfield 83, 3) := by decide +kernel
theorem dX7_program_208 : decode cX7_program 208 = .ok (.invokevirtual 130, 3) := by decide +kernel
theorem dX7_program_211 : decode cX7_program 211 = .ok (.ireturn, 1) := by decide +kernel
theorem dX7_opens_0 : decode cX7_opens 0 = .ok (.aload_n 0, 1) := by decide +kernel
theorem dX7_opens_1 : decode cX7_opens 1 = .ok (.getfield 34, 3) := by decide +kernel
theorem dX7_opens_4 : decode cX7_opens 4 = .ok (.aload_n 0, 1) := by decide +kernel
theorem dX7_opens_5 : decode cX7_opens 5 = .ok (.getfield 148, 3) := by decide +kernel
theorem dX7_opens_8 : decode cX7_opens 8 = .ok (.iload_n 1, 1) := by decide +kernel
theorem dX7_opens_9 : decode cX7_opens 9 = .ok (.iastore, 1) := by decide +kernel
theorem dX7_opens_10 : decode cX7_opens 10 = .ok (.aload_n 0, 1) := by decide +kernel
theorem dX7_opens_11 : decode cX7_opens 11 = .ok (.getfield 37, 3) := by decide +kernel
theorem dX7_opens_14 : decode cX7_opens 14 = .ok (.aload_n 0, 1) := by decide +kernel
theorem dX7_opens_15 : decode cX7_opens 15 = .ok (.getfield 148, 3) := by decide +kernel
theorem dX7_opens_18 : decode cX7_opens 18 = .ok (.iconst 0, 1) := by decide +kernel
theorem dX7_opens_19 : decode cX7_opens 19 = .ok (.iastore, 1) := by decide +kernel
theorem dX7_opens_20 : decode cX7_opens 20 = .ok (.aload_n 0, 1) := by decide +kernel
theorem dX7_opens_21 : decode cX7_opens 21 = .ok (.dup, 1) := by decide +kernel
theorem dX7_opens_22 : decode cX7_opens 22 = .ok (.getfield 148, 3) := by decide +kernel
theorem dX7_opens_25 : decode cX7_opens 25 = .ok (.iconst 1, 1) := by decide +kernel
theorem dX7_opens_26 : decode cX7_opens 26 = .ok (.iadd, 1) := by decide +kernel
theorem dX7_opens_27 : decode cX7_opens 27 = .ok (.putfield 148, 3) := by decide +kernel
theorem dX7_opens_30 : decode cX7_opens 30 = .ok (.return_, 1) := by decide +kernel
theorem dX7_ends_0 : decode cX7_ends 0 = .ok (.aload_n 0, 1) := by decide +kernel
theorem dX7_ends_1 : decode cX7_ends 1 = .ok (.dup, 1) := by decide +kernel
theorem dX7_ends_2 : decode cX7_ends 2 = .ok (.getfield 148, 3) := by decide +kernel
theorem dX7_ends_5 : decode cX7_ends 5 = .ok (.iconst 1, 1) := by decide +kernel
theorem dX7_ends_6 : decode cX7_ends 6 = .ok (.isub, 1) := by decide +kernel
theorem dX7_ends_7 : decode cX7_ends 7 = .ok (.putfield 148, 3) := by decide +kernel
theorem dX7_ends_10 : decode cX7_ends 10 = .ok (.aload_n 0, 1) := by decide +kernel
theorem dX7_ends_11 : decode cX7_ends 11 = .ok (.dup, 1) := by decide +kernel
theorem dX7_ends_12 : decode cX7_ends 12 = .ok (.getfield 151, 3) := by decide +kernel
theorem dX7_ends_15 : decode cX7_ends 15 = .ok (.iconst 1, 1) := by decide +kernel
theorem dX7_ends_16 : decode cX7_ends 16 = .ok (.iadd, 1) := by decide +kernel
theorem dX7_ends_17 : decode cX7_ends 17 = .ok (.putfield 151, 3) := by decide +kernel
theorem dX7_ends_20 : decode cX7_ends 20 = .ok (.return_, 1) := by decide +kernel
theorem dX7_performs_0 : decode cX7_performs 0 = .ok (.aload_n 0, 1) := by decide +kernel
theorem dX7_performs_1 : decode cX7_performs 1 = .ok (.getfield 40, 3) := by decide +kernel
theorem dX7_performs_4 : decode cX7_performs 4 = .ok (.aload_n 0, 1) := by decide +kernel
theorem dX7_performs_5 : decode cX7_performs 5 = .ok (.getfield 154, 3) := by decide +kernel
theorem dX7_performs_8 : decode cX7_performs 8 = .ok (.iload_n 1, 1) := by decide +kernel
theorem dX7_performs_9 : decode cX7_performs 9 = .ok (.iastore, 1) := by decide +kernel
theorem dX7_performs_10 : decode cX7_performs 10 = .ok (.aload_n 0, 1) := by decide +kernel
theorem dX7_performs_11 : decode cX7_performs 11 = .ok (.dup, 1) := by decide +kernel
theorem dX7_performs_12 : decode cX7_performs 12 = .ok (.getfield 154, 3) := by decide +kernel
theorem dX7_performs_15 : decode cX7_performs 15 = .ok (.iconst 1, 1) := by decide +kernel
theorem dX7_performs_16 : decode cX7_performs 16 = .ok (.iadd, 1) := by decide +kernel
theorem dX7_performs_17 : decode cX7_performs 17 = .ok (.putfield 154, 3) := by decide +kernel
theorem dX7_performs_20 : decode cX7_performs 20 = .ok (.aload_n 0, 1) := by decide +kernel
theorem dX7_performs_21 : decode cX7_performs 21 = .ok (.aload_n 0, 1) := by decide +kernel
theorem dX7_performs_22 : decode cX7_performs 22 = .ok (.getfield 148, 3) := by decide +kernel
theorem dX7_performs_25 : decode cX7_performs 25 = .ok (.putfield 157, 3) := by decide +kernel
theorem dX7_performs_28 : decode cX7_performs 28 = .ok (.iconst 0, 1) := by decide +kernel
theorem dX7_performs_29 : decode cX7_performs 29 = .ok (.istore_n 2, 1) := by decide +kernel
theorem dX7_performs_30 : decode cX7_performs 30 = .ok (.iload_n 2, 1) := by decide +kernel
theorem dX7_performs_31 : decode cX7_performs 31 = .ok (.aload_n 0, 1) := by decide +kernel
theorem dX7_performs_32 : decode cX7_performs 32 = .ok (.getfield 148, 3) := by decide +kernel
theorem dX7_performs_35 : decode cX7_performs 35 = .ok (.if_icmp .ge 21, 3) := by decide +kernel
theorem dX7_performs_38 : decode cX7_performs 38 = .ok (.aload_n 0, 1) := by decide +kernel
theorem dX7_performs_39 : decode cX7_performs 39 = .ok (.getfield 43, 3) := by decide +kernel
theorem dX7_performs_42 : decode cX7_performs 42 = .ok (.iload_n 2, 1) := by decide +kernel
theorem dX7_performs_43 : decode cX7_performs 43 = .ok (.aload_n 0, 1) := by decide +kernel
theorem dX7_performs_44 : decode cX7_performs 44 = .ok (.getfield 34, 3) := by decide +kernel
theorem dX7_performs_47 : decode cX7_performs 47 = .ok (.iload_n 2, 1) := by decide +kernel
theorem dX7_performs_48 : decode cX7_performs 48 = .ok (.iaload, 1) := by decide +kernel
theorem dX7_performs_49 : decode cX7_performs 49 = .ok (.iastore, 1) := by decide +kernel
theorem dX7_performs_50 : decode cX7_performs 50 = .ok (.iinc 2 1, 3) := by decide +kernel
theorem dX7_performs_53 : decode cX7_performs 53 = .ok (.goto (-23), 3) := by decide +kernel
theorem dX7_performs_56 : decode cX7_performs 56 = .ok (.return_, 1) := by decide +kernel
set_option maxRecDepth 20000 in
theorem ggX7_comesOut_X7_ends : GoodIn wsX7_comesOut wsX7_ends := goodIn_r _ [9, 1, 10, 11, 12, 13, 14, 15, 16, 17, 18, 19, 20, 21, 22, 23, 24, 25, 26, 27, 28, 29, 30, 31, 32, 33, 34, 35, 36, 37, 38, 39, 40, 41, 42, 43, 44] (by decide +kernel) (by decide +kernel)
set_option maxRecDepth 20000 in
theorem gX7_comesOut_X7_ends : GoodIn wsX7_comesOut (wsV RX7 160 RX7 yX7_ends wsX7_ends) := goodIn_app (goodIn_of _ (by decide +kernel)) ggX7_comesOut_X7_ends
theorem dX7_comesOut_0 : decode cX7_comesOut 0 = .ok (.iload_n 1, 1) := by decide +kernel
theorem dX7_comesOut_1 : decode cX7_comesOut 1 = .ok (.istore_n 2, 1) := by decide +kernel
theorem dX7_comesOut_2 : decode cX7_comesOut 2 = .ok (.aload_n 0, 1) := by decide +kernel
theorem dX7_comesOut_3 : decode cX7_comesOut 3 = .ok (.getfield 148, 3) := by decide +kernel
theorem dX7_comesOut_6 : decode cX7_comesOut 6 = .ok (.ifCond .le 79, 3) := by decide +kernel
theorem dX7_comesOut_9 : decode cX7_comesOut 9 = .ok (.iload_n 2, 1) := by decide +kernel
theorem dX7_comesOut_10 : decode cX7_comesOut 10 = .ok (.ifCond .lt 75, 3) := by decide +kernel
theorem dX7_comesOut_13 : decode cX7_comesOut 13 = .ok (.aload_n 0, 1) := by decide +kernel
theorem dX7_comesOut_14 : decode cX7_comesOut 14 = .ok (.getfield 34, 3) := by decide +kernel
theorem dX7_comesOut_17 : decode cX7_comesOut 17 = .ok (.aload_n 0, 1) := by decide +kernel
theorem dX7_comesOut_18 : decode cX7_comesOut 18 = .ok (.getfield 148, 3) := by decide +kernel
theorem dX7_comesOut_21 : decode cX7_comesOut 21 = .ok (.iconst 1, 1) := by decide +kernel
theorem dX7_comesOut_22 : decode cX7_comesOut 22 = .ok (.isub, 1) := by decide +kernel
theorem dX7_comesOut_23 : decode cX7_comesOut 23 = .ok (.iaload, 1) := by decide +kernel
theorem dX7_comesOut_24 : decode cX7_comesOut 24 = .ok (.istore_n 3, 1) := by decide +kernel
theorem dX7_comesOut_25 : decode cX7_comesOut 25 = .ok (.aload_n 0, 1) := by decide +kernel
theorem dX7_comesOut_26 : decode cX7_comesOut 26 = .ok (.getfield 7, 3) := by decide +kernel
theorem dX7_comesOut_29 : decode cX7_comesOut 29 = .ok (.iload_n 3, 1) := by decide +kernel
theorem dX7_comesOut_30 : decode cX7_comesOut 30 = .ok (.iaload, 1) := by decide +kernel
theorem dX7_comesOut_31 : decode cX7_comesOut 31 = .ok (.ifCond .le 17, 3) := by decide +kernel
theorem dX7_comesOut_34 : decode cX7_comesOut 34 = .ok (.aload_n 0, 1) := by decide +kernel
theorem dX7_comesOut_35 : decode cX7_comesOut 35 = .ok (.getfield 13, 3) := by decide +kernel
theorem dX7_comesOut_38 : decode cX7_comesOut 38 = .ok (.iload_n 3, 1) := by decide +kernel
theorem dX7_comesOut_39 : decode cX7_comesOut 39 = .ok (.iaload, 1) := by decide +kernel
theorem dX7_comesOut_40 : decode cX7_comesOut 40 = .ok (.iload_n 2, 1) := by decide +kernel
theorem dX7_comesOut_41 : decode cX7_comesOut 41 = .ok (.if_icmp .ne 7, 3) := by decide +kernel
theorem dX7_comesOut_44 : decode cX7_comesOut 44 = .ok (.iconst 1, 1) := by decide +kernel
theorem dX7_comesOut_45 : decode cX7_comesOut 45 = .ok (.goto 4, 3) := by decide +kernel
theorem dX7_comesOut_48 : decode cX7_comesOut 48 = .ok (.iconst 0, 1) := by decide +kernel
theorem dX7_comesOut_49 : decode cX7_comesOut 49 = .ok (.istore 4, 2) := by decide +kernel
theorem dX7_comesOut_51 : decode cX7_comesOut 51 = .ok (.iload 4, 2) := by decide +kernel
theorem dX7_comesOut_53 : decode cX7_comesOut 53 = .ok (.ifCond .eq 8, 3) := by decide +kernel
theorem dX7_comesOut_56 : decode cX7_comesOut 56 = .ok (.bipush (-9), 2) := by decide +kernel
theorem dX7_comesOut_58 : decode cX7_comesOut 58 = .ok (.goto 4, 3) := by decide +kernel
theorem dX7_comesOut_61 : decode cX7_comesOut 61 = .ok (.iload_n 2, 1) := by decide +kernel
theorem dX7_comesOut_62 : decode cX7_comesOut 62 = .ok (.istore_n 2, 1) := by decide +kernel
theorem dX7_comesOut_63 : decode cX7_comesOut 63 = .ok (.iload 4, 2) := by decide +kernel
theorem dX7_comesOut_65 : decode cX7_comesOut 65 = .ok (.ifCond .eq 13, 3) := by decide +kernel
theorem dX7_comesOut_68 : decode cX7_comesOut 68 = .ok (.aload_n 0, 1) := by decide +kernel
theorem dX7_comesOut_69 : decode cX7_comesOut 69 = .ok (.getfield 7, 3) := by decide +kernel
theorem dX7_comesOut_72 : decode cX7_comesOut 72 = .ok (.iload_n 3, 1) := by decide +kernel
theorem dX7_comesOut_73 : decode cX7_comesOut 73 = .ok (.iaload, 1) := by decide +kernel
theorem dX7_comesOut_74 : decode cX7_comesOut 74 = .ok (.iconst 1, 1) := by decide +kernel
theorem dX7_comesOut_75 : decode cX7_comesOut 75 = .ok (.if_icmp .ne 7, 3) := by decide +kernel
theorem dX7_comesOut_78 : decode cX7_comesOut 78 = .ok (.aload_n 0, 1) := by decide +kernel
theorem dX7_comesOut_79 : decode cX7_comesOut 79 = .ok (.invokevirtual 160, 3) := by decide +kernel
theorem dX7_comesOut_82 : decode cX7_comesOut 82 = .ok (.goto (-80), 3) := by decide +kernel
theorem dX7_comesOut_85 : decode cX7_comesOut 85 = .ok (.iload_n 2, 1) := by decide +kernel
theorem dX7_comesOut_86 : decode cX7_comesOut 86 = .ok (.ireturn, 1) := by decide +kernel
set_option maxRecDepth 20000 in
theorem ggX7_goesOn_X7_ends : GoodIn wsX7_goesOn wsX7_ends := goodIn_r _ [11, 2, 12, 31, 32, 33, 34, 35, 36, 37, 38, 39, 40, 41, 42, 43, 44, 45, 46, 47, 48, 49, 50, 51, 52, 53, 54, 55, 56, 57, 58, 59, 60, 61, 62, 63, 64] (by decide +kernel) (by decide +kernel)
set_option maxRecDepth 20000 in
theorem gX7_goesOn_X7_ends : GoodIn wsX7_goesOn (wsV RX7 160 RX7 yX7_ends wsX7_ends) := goodIn_app (goodIn_of _ (by decide +kernel)) ggX7_goesOn_X7_ends
set_option maxRecDepth 20000 in
theorem ggX7_goesOn_X7_opens : GoodIn wsX7_goesOn wsX7_opens := goodIn_r _ [16, 1, 2, 3, 31, 32, 33, 34, 35, 36, 37, 38, 39, 40, 41, 42, 43, 44, 45, 46, 47, 48, 49, 50, 51, 52, 53, 54, 55, 56, 57, 58, 59, 60, 61, 62, 63, 64] (by decide +kernel) (by decide +kernel)
set_option maxRecDepth 20000 in
theorem gX7_goesOn_X7_opens : GoodIn wsX7_goesOn (wsV RX7 163 RX7 yX7_opens wsX7_opens) := goodIn_app (goodIn_of _ (by decide +kernel)) ggX7_goesOn_X7_opens
set_option maxRecDepth 20000 in
theorem ggX7_goesOn_X7_performs : GoodIn wsX7_goesOn wsX7_performs := goodIn_r _ [20, 21, 22, 2, 23, 24, 1, 31, 32, 33, 34, 35, 36, 37, 38, 39, 40, 41, 42, 43, 44, 45, 46, 47, 48, 49, 50, 51, 52, 53, 54, 55, 56, 57, 58, 59, 60, 61, 62, 63, 64] (by decide +kernel) (by decide +kernel)
set_option maxRecDepth 20000 in
theorem gX7_goesOn_X7_performs : GoodIn wsX7_goesOn (wsV RX7 167 RX7 yX7_performs wsX7_performs) := goodIn_app (goodIn_of _ (by decide +kernel)) ggX7_goesOn_X7_performs
set_option maxRecDepth 20000 in
theorem ggX7_goesOn_X7_comesOut : GoodIn wsX7_goesOn wsX7_comesOut := goodIn_r _ [28, 2, 1, 29, 30, 7, 8, 9, 10, 11, 12, 31, 32, 33, 34, 35, 36, 37, 38, 39, 40, 41, 42, 43, 44, 45, 46, 47, 48, 49, 50, 51, 52, 53, 54, 55, 56, 57, 58, 59, 60, 61, 62, 63, 64] (by decide +kernel) (by decide +kernel)
set_option maxRecDepth 20000 in
theorem gX7_goesOn_X7_comesOut : GoodIn wsX7_goesOn (wsV RX7 170 RX7 yX7_comesOut wsX7_comesOut) := goodIn_app (goodIn_of _ (by decide +kernel)) ggX7_goesOn_X7_comesOut
theorem dX7_goesOn_0 : decode cX7_goesOn 0 = .ok (.aload_n 0, 1) := by decide +kernel
theorem dX7_goesOn_1 : decode cX7_goesOn 1 = .ok (.getfield 34, 3) := by decide +kernel
theorem dX7_goesOn_4 : decode cX7_goesOn 4 = .ok (.aload_n 0, 1) := by decide +kernel
theorem dX7_goesOn_5 : decode cX7_goesOn 5 = .ok (.getfield 148, 3) := by decide +kernel
theorem dX7_goesOn_8 : decode cX7_goesOn 8 = .ok (.iconst 1, 1) := by decide +kernel
theorem dX7_goesOn_9 : decode cX7_goesOn 9 = .ok (.isub, 1) := by decide +kernel
theorem dX7_goesOn_10 : decode cX7_goesOn 10 = .ok (.iaload, 1) := by decide +kernel
theorem dX7_goesOn_11 : decode cX7_goesOn 11 = .ok (.istore_n 1, 1) := by decide +kernel
theorem dX7_goesOn_12 : decode cX7_goesOn 12 = .ok (.aload_n 0, 1) := by decide +kernel
theorem dX7_goesOn_13 : decode cX7_goesOn 13 = .ok (.getfield 37, 3) := by decide +kernel
theorem dX7_goesOn_16 : decode cX7_goesOn 16 = .ok (.aload_n 0, 1) := by decide +kernel
theorem dX7_goesOn_17 : decode cX7_goesOn 17 = .ok (.getfield 148, 3) := by decide +kernel
theorem dX7_goesOn_20 : decode cX7_goesOn 20 = .ok (.iconst 1, 1) := by decide +kernel
theorem dX7_goesOn_21 : decode cX7_goesOn 21 = .ok (.isub, 1) := by decide +kernel
theorem dX7_goesOn_22 : decode cX7_goesOn 22 = .ok (.iaload, 1) := by decide +kernel
theorem dX7_goesOn_23 : decode cX7_goesOn 23 = .ok (.istore_n 2, 1) := by decide +kernel
theorem dX7_goesOn_24 : decode cX7_goesOn 24 = .ok (.iload_n 2, 1) := by decide +kernel
theorem dX7_goesOn_25 : decode cX7_goesOn 25 = .ok (.aload_n 0, 1) := by decide +kernel
theorem dX7_goesOn_26 : decode cX7_goesOn 26 = .ok (.getfield 16, 3) := by decide +kernel
theorem dX7_goesOn_29 : decode cX7_goesOn 29 = .ok (.iload_n 1, 1) := by decide +kernel
theorem dX7_goesOn_30 : decode cX7_goesOn 30 = .ok (.iaload, 1) := by decide +kernel
theorem dX7_goesOn_31 : decode cX7_goesOn 31 = .ok (.if_icmp .ne 10, 3) := by decide +kernel
theorem dX7_goesOn_34 : decode cX7_goesOn 34 = .ok (.aload_n 0, 1) := by decide +kernel
theorem dX7_goesOn_35 : decode cX7_goesOn 35 = .ok (.invokevirtual 160, 3) := by decide +kernel
theorem dX7_goesOn_38 : decode cX7_goesOn 38 = .ok (.bipush (-9), 2) := by decide +kernel
theorem dX7_goesOn_40 : decode cX7_goesOn 40 = .ok (.ireturn, 1) := by decide +kernel
theorem dX7_goesOn_41 : decode cX7_goesOn 41 = .ok (.aload_n 0, 1) := by decide +kernel
theorem dX7_goesOn_42 : decode cX7_goesOn 42 = .ok (.getfield 37, 3) := by decide +kernel
theorem dX7_goesOn_45 : decode cX7_goesOn 45 = .ok (.aload_n 0, 1) := by decide +kernel
theorem dX7_goesOn_46 : decode cX7_goesOn 46 = .ok (.getfield 148, 3) := by decide +kernel
theorem dX7_goesOn_49 : decode cX7_goesOn 49 = .ok (.iconst 1, 1) := by decide +kernel
theorem dX7_goesOn_50 : decode cX7_goesOn 50 = .ok (.isub, 1) := by decide +kernel
theorem dX7_goesOn_51 : decode cX7_goesOn 51 = .ok (.dup2, 1) := by decide +kernel
theorem dX7_goesOn_52 : decode cX7_goesOn 52 = .ok (.iaload, 1) := by decide +kernel
theorem dX7_goesOn_53 : decode cX7_goesOn 53 = .ok (.iconst 1, 1) := by decide +kernel
theorem dX7_goesOn_54 : decode cX7_goesOn 54 = .ok (.iadd, 1) := by decide +kernel
theorem dX7_goesOn_55 : decode cX7_goesOn 55 = .ok (.iastore, 1) := by decide +kernel
theorem dX7_goesOn_56 : decode cX7_goesOn 56 = .ok (.aload_n 0, 1) := by decide +kernel
theorem dX7_goesOn_57 : decode cX7_goesOn 57 = .ok (.getfield 19, 3) := by decide +kernel
theorem dX7_goesOn_60 : decode cX7_goesOn 60 = .ok (.iconst 4, 1) := by decide +kernel
theorem dX7_goesOn_61 : decode cX7_goesOn 61 = .ok (.iload_n 1, 1) := by decide +kernel
theorem dX7_goesOn_62 : decode cX7_goesOn 62 = .ok (.imul, 1) := by decide +kernel
theorem dX7_goesOn_63 : decode cX7_goesOn 63 = .ok (.iload_n 2, 1) := by decide +kernel
theorem dX7_goesOn_64 : decode cX7_goesOn 64 = .ok (.iadd, 1) := by decide +kernel
theorem dX7_goesOn_65 : decode cX7_goesOn 65 = .ok (.iaload, 1) := by decide +kernel
theorem dX7_goesOn_66 : decode cX7_goesOn 66 = .ok (.istore_n 3, 1) := by decide +kernel
theorem dX7_goesOn_67 : decode cX7_goesOn 67 = .ok (.iload_n 3, 1) := by decide +kernel
theorem dX7_goesOn_68 : decode cX7_goesOn 68 = .ok (.iconst 4, 1) := by decide +kernel
theorem dX7_goesOn_69 : decode cX7_goesOn 69 = .ok (.if_icmp .lt 13, 3) := by decide +kernel
theorem dX7_goesOn_72 : decode cX7_goesOn 72 = .ok (.aload_n 0, 1) := by decide +kernel
theorem dX7_goesOn_73 : decode cX7_goesOn 73 = .ok (.iload_n 3, 1) := by decide +kernel
theorem dX7_goesOn_74 : decode cX7_goesOn 74 = .ok (.iconst 4, 1) := by decide +kernel
theorem dX7_goesOn_75 : decode cX7_goesOn 75 = .ok (.isub, 1) := by decide +kernel
theorem dX7_goesOn_76 : decode cX7_goesOn 76 = .ok (.invokevirtual 163, 3) := by decide +kernel
theorem dX7_goesOn_79 : decode cX7_goesOn 79 = .ok (.bipush (-9), 2) := by decide +kernel
theorem dX7_goesOn_81 : decode cX7_goesOn 81 = .ok (.ireturn, 1) := by decide +kernel
theorem dX7_goesOn_82 : decode cX7_goesOn 82 = .ok (.aload_n 0, 1) := by decide +kernel
theorem dX7_goesOn_83 : decode cX7_goesOn 83 = .ok (.getfield 142, 3) := by decide +kernel
theorem dX7_goesOn_86 : decode cX7_goesOn 86 = .ok (.iload_n 3, 1) := by decide +kernel
theorem dX7_goesOn_87 : decode cX7_goesOn 87 = .ok (.ishr, 1) := by decide +kernel
theorem dX7_goesOn_88 : decode cX7_goesOn 88 = .ok (.iconst 1, 1) := by decide +kernel
theorem dX7_goesOn_89 : decode cX7_goesOn 89 = .ok (.iand, 1) := by decide +kernel
theorem dX7_goesOn_90 : decode cX7_goesOn 90 = .ok (.ifCond .ne 6, 3) := by decide +kernel
theorem dX7_goesOn_93 : decode cX7_goesOn 93 = .ok (.bipush (-9), 2) := by decide +kernel
theorem dX7_goesOn_95 : decode cX7_goesOn 95 = .ok (.ireturn, 1) := by decide +kernel
theorem dX7_goesOn_96 : decode cX7_goesOn 96 = .ok (.aload_n 0, 1) := by decide +kernel
theorem dX7_goesOn_97 : decode cX7_goesOn 97 = .ok (.iload_n 3, 1) := by decide +kernel
theorem dX7_goesOn_98 : decode cX7_goesOn 98 = .ok (.invokevirtual 167, 3) := by decide +kernel
theorem dX7_goesOn_101 : decode cX7_goesOn 101 = .ok (.aload_n 0, 1) := by decide +kernel
theorem dX7_goesOn_102 : decode cX7_goesOn 102 = .ok (.iload_n 3, 1) := by decide +kernel
theorem dX7_goesOn_103 : decode cX7_goesOn 103 = .ok (.invokevirtual 170, 3) := by decide +kernel
theorem dX7_goesOn_106 : decode cX7_goesOn 106 = .ok (.ireturn, 1) := by decide +kernel
set_option maxRecDepth 20000 in
theorem ggX7_runs_X7_opens : GoodIn wsX7_runs wsX7_opens := goodIn_r _ [9, 10, 1, 11, 35, 36, 37, 38, 39, 40, 41, 42, 43, 44, 45, 46, 47, 48, 49, 50, 51, 52, 53, 54, 55, 56, 57, 58, 59, 60, 61, 62, 63, 64, 65, 66, 67, 68] (by decide +kernel) (by decide +kernel)
set_option maxRecDepth 20000 in
theorem gX7_runs_X7_opens : GoodIn wsX7_runs (wsV RX7 163 RX7 yX7_opens wsX7_opens) := goodIn_app (goodIn_of _ (by decide +kernel)) ggX7_runs_X7_opens
set_option maxRecDepth 20000 in
theorem ggX7_runs_X7_goesOn : GoodIn wsX7_runs wsX7_goesOn := goodIn_r _ [15, 10, 1, 11, 16, 17, 18, 19, 20, 21, 8, 22, 3, 5, 6, 7, 9, 23, 24, 25, 26, 27, 2, 4, 28, 29, 30, 31, 32, 33, 34, 35, 36, 37, 38, 39, 40, 41, 42, 43, 44, 45, 46, 47, 48, 49, 50, 51, 52, 53, 54, 55, 56, 57, 58, 59, 60, 61, 62, 63, 64, 65, 66, 67, 68] (by decide +kernel) (by decide +kernel)
set_option maxRecDepth 20000 in
theorem gX7_runs_X7_goesOn : GoodIn wsX7_runs (wsV RX7 173 RX7 yX7_goesOn wsX7_goesOn) := goodIn_app (goodIn_of _ (by decide +kernel)) ggX7_runs_X7_goesOn
theorem dX7_runs_0 : decode cX7_runs 0 = .ok (.aload_n 0, 1) := by decide +kernel
theorem dX7_runs_1 : decode cX7_runs 1 = .ok (.iconst 0, 1) := by decide +kernel
theorem dX7_runs_2 : decode cX7_runs 2 = .ok (.putfield 148, 3) := by decide +kernel
theorem dX7_runs_5 : decode cX7_runs 5 = .ok (.aload_n 0, 1) := by decide +kernel
theorem dX7_runs_6 : decode cX7_runs 6 = .ok (.iconst 0, 1) := by decide +kernel
theorem dX7_runs_7 : decode cX7_runs 7 = .ok (.putfield 154, 3) := by decide +kernel
theorem dX7_runs_10 : decode cX7_runs 10 = .ok (.aload_n 0, 1) := by decide +kernel
theorem dX7_runs_11 : decode cX7_runs 11 = .ok (.iconst 0, 1) := by decide +kernel
theorem dX7_runs_12 : decode cX7_runs 12 = .ok (.putfield 151, 3) := by decide +kernel
theorem dX7_runs_15 : decode cX7_runs 15 = .ok (.aload_n 0, 1) := by decide +kernel
theorem dX7_runs_16 : decode cX7_runs 16 = .ok (.iload_n 1, 1) := by decide +kernel
theorem dX7_runs_17 : decode cX7_runs 17 = .ok (.invokevirtual 163, 3) := by decide +kernel
theorem dX7_runs_20 : decode cX7_runs 20 = .ok (.bipush (-9), 2) := by decide +kernel
theorem dX7_runs_22 : decode cX7_runs 22 = .ok (.istore_n 2, 1) := by decide +kernel
theorem dX7_runs_23 : decode cX7_runs 23 = .ok (.aload_n 0, 1) := by decide +kernel
theorem dX7_runs_24 : decode cX7_runs 24 = .ok (.getfield 148, 3) := by decide +kernel
theorem dX7_runs_27 : decode cX7_runs 27 = .ok (.ifCond .le 11, 3) := by decide +kernel
theorem dX7_runs_30 : decode cX7_runs 30 = .ok (.aload_n 0, 1) := by decide +kernel
theorem dX7_runs_31 : decode cX7_runs 31 = .ok (.invokevirtual 173, 3) := by decide +kernel
theorem dX7_runs_34 : decode cX7_runs 34 = .ok (.istore_n 2, 1) := by decide +kernel
theorem dX7_runs_35 : decode cX7_runs 35 = .ok (.goto (-12), 3) := by decide +kernel
theorem dX7_runs_38 : decode cX7_runs 38 = .ok (.aload_n 0, 1) := by decide +kernel
theorem dX7_runs_39 : decode cX7_runs 39 = .ok (.iload_n 2, 1) := by decide +kernel
theorem dX7_runs_40 : decode cX7_runs 40 = .ok (.ifCond .ge 7, 3) := by decide +kernel
theorem dX7_runs_43 : decode cX7_runs 43 = .ok (.iconst 0, 1) := by decide +kernel
theorem dX7_runs_44 : decode cX7_runs 44 = .ok (.goto 7, 3) := by decide +kernel
theorem dX7_runs_47 : decode cX7_runs 47 = .ok (.aload_n 0, 1) := by decide +kernel
theorem dX7_runs_48 : decode cX7_runs 48 = .ok (.getfield 157, 3) := by decide +kernel
theorem dX7_runs_51 : decode cX7_runs 51 = .ok (.putfield 157, 3) := by decide +kernel
theorem dX7_runs_54 : decode cX7_runs 54 = .ok (.iload_n 2, 1) := by decide +kernel
theorem dX7_runs_55 : decode cX7_runs 55 = .ok (.ireturn, 1) := by decide +kernel
set_option maxRecDepth 20000 in
theorem ggX7_runsBy_X7_runs : GoodIn wsX7_runsBy wsX7_runs := goodIn_r _ [6, 7, 8, 9, 10, 11, 12, 13, 5, 14, 15, 16, 17, 18, 19, 20, 21, 22, 1, 23, 24, 25, 26, 27, 28, 29, 30, 31, 32, 33, 34, 35, 36, 37, 38, 39, 40, 41, 42, 43, 44, 45, 46, 47, 48, 49, 50, 51, 52, 53, 54, 55, 56, 57, 58, 59, 60, 61, 62, 63, 64, 65, 66, 67, 68, 69, 70, 71, 72] (by decide +kernel) (by decide +kernel)
set_option maxRecDepth 20000 in
theorem gX7_runsBy_X7_runs : GoodIn wsX7_runsBy (wsV RX7 177 RX7 yX7_runs wsX7_runs) := goodIn_app (goodIn_of _ (by decide +kernel)) ggX7_runsBy_X7_runs
theorem dX7_runsBy_0 : decode cX7_runsBy 0 = .ok (.aload_n 0, 1) := by decide +kernel
theorem dX7_runsBy_1 : decode cX7_runsBy 1 = .ok (.getfield 142, 3) := by decide +kernel
theorem dX7_runsBy_4 : decode cX7_runsBy 4 = .ok (.istore_n 3, 1) := by decide +kernel
theorem dX7_runsBy_5 : decode cX7_runsBy 5 = .ok (.aload_n 0, 1) := by decide +kernel
theorem dX7_runsBy_6 : decode cX7_runsBy 6 = .ok (.iload_n 2, 1) := by decide +kernel
theorem dX7_runsBy_7 : decode cX7_runsBy 7 = .ok (.putfield 142, 3) := by decide +kernel
theorem dX7_runsBy_10 : decode cX7_runsBy 10 = .ok (.aload_n 0, 1) := by decide +kernel
theorem dX7_runsBy_11 : decode cX7_runsBy 11 = .ok (.iload_n 1, 1) := by decide +kernel
theorem dX7_runsBy_12 : decode cX7_runsBy 12 = .ok (.invokevirtual 177, 3) := by decide +kernel
theorem dX7_runsBy_15 : decode cX7_runsBy 15 = .ok (.istore 4, 2) := by decide +kernel
theorem dX7_runsBy_17 : decode cX7_runsBy 17 = .ok (.aload_n 0, 1) := by decide +kernel
theorem dX7_runsBy_18 : decode cX7_runsBy 18 = .ok (.iload_n 3, 1) := by decide +kernel
theorem dX7_runsBy_19 : decode cX7_runsBy 19 = .ok (.putfield 142, 3) := by decide +kernel
theorem dX7_runsBy_22 : decode cX7_runsBy 22 = .ok (.iload 4, 2) := by decide +kernel
theorem dX7_runsBy_24 : decode cX7_runsBy 24 = .ok (.ireturn, 1) := by decide +kernel
theorem dX7_rows_0 : decode cX7_rows 0 = .ok (.iconst 0, 1) := by decide +kernel
theorem dX7_rows_1 : decode cX7_rows 1 = .ok (.istore_n 1, 1) := by decide +kernel
theorem dX7_rows_2 : decode cX7_rows 2 = .ok (.iload_n 1, 1) := by decide +kernel
theorem dX7_rows_3 : decode cX7_rows 3 = .ok (.aload_n 0, 1) := by decide +kernel
theorem dX7_rows_4 : decode cX7_rows 4 = .ok (.getfield 83, 3) := by decide +kernel
theorem dX7_rows_7 : decode cX7_rows 7 = .ok (.if_icmp .ge 109, 3) := by decide +kernel
theorem dX7_rows_10 : decode cX7_rows 10 = .ok (.iconst 0, 1) := by decide +kernel
theorem dX7_rows_11 : decode cX7_rows 11 = .ok (.istore_n 2, 1) := by decide +kernel
theorem dX7_rows_12 : decode cX7_rows 12 = .ok (.iconst 0, 1) := by decide +kernel
theorem dX7_rows_13 : decode cX7_rows 13 = .ok (.istore_n 3, 1) := by decide +kernel
theorem dX7_rows_14 : decode cX7_rows 14 = .ok (.iload_n 3, 1) := by decide +kernel
theorem dX7_rows_15 : decode cX7_rows 15 = .ok (.aload_n 0, 1) := by decide +kernel
theorem dX7_rows_16 : decode cX7_rows 16 = .ok (.getfield 16, 3) := by decide +kernel
theorem dX7_rows_19 : decode cX7_rows 19 = .ok (.iload_n 1, 1) := by decide +kernel
theorem dX7_rows_20 : decode cX7_rows 20 = .ok (.iaload, 1) := by decide +kernel
theorem dX7_rows_21 : decode cX7_rows 21 = .ok (.if_icmp .ge 46, 3) := by decide +kernel
theorem dX7_rows_24 : decode cX7_rows 24 = .ok (.aload_n 0, 1) := by decide +kernel
theorem dX7_rows_25 : decode cX7_rows 25 = .ok (.getfield 19, 3) := by decide +kernel
theorem dX7_rows_28 : decode cX7_rows 28 = .ok (.iconst 4, 1) := by decide +kernel
theorem dX7_rows_29 : decode cX7_rows 29 = .ok (.iload_n 1, 1) := by decide +kernel
theorem dX7_rows_30 : decode cX7_rows 30 = .ok (.imul, 1) := by decide +kernel
theorem dX7_rows_31 : decode cX7_rows 31 = .ok (.iload_n 3, 1) := by decide +kernel
theorem dX7_rows_32 : decode cX7_rows 32 = .ok (.iadd, 1) := by decide +kernel
theorem dX7_rows_33 : decode cX7_rows 33 = .ok (.iaload, 1) := by decide +kernel
theorem dX7_rows_34 : decode cX7_rows 34 = .ok (.istore 4, 2) := by decide +kernel
theorem dX7_rows_36 : decode cX7_rows 36 = .ok (.iload_n 2, 1) := by decide +kernel
theorem dX7_rows_37 : decode cX7_rows 37 = .ok (.iload 4, 2) := by decide +kernel
theorem dX7_rows_39 : decode cX7_rows 39 = .ok (.iconst 4, 1) := by decide +kernel
theorem dX7_rows_40 : decode cX7_rows 40 = .ok (.if_icmp .ge 10, 3) := by decide +kernel
theorem dX7_rows_43 : decode cX7_rows 43 = .ok (.iconst 1, 1) := by decide +kernel
theorem dX7_rows_44 : decode cX7_rows 44 = .ok (.iload 4, 2) := by decide +kernel
theorem dX7_rows_46 : decode cX7_rows 46 = .ok (.ishl, 1) := by decide +kernel
theorem dX7_rows_47 : decode cX7_rows 47 = .ok (.goto 12, 3) := by decide +kernel
theorem dX7_rows_50 : decode cX7_rows 50 = .ok (.aload_n 0, 1) := by decide +kernel
theorem dX7_rows_51 : decode cX7_rows 51 = .ok (.getfield 46, 3) := by decide +kernel
theorem dX7_rows_54 : decode cX7_rows 54 = .ok (.iload 4, 2) := by decide +kernel
