theorem dX4_renew_0 : decode cX4_renew 0 = .ok (.iload_n 1, 1) := by decide +kernel
theorem dX4_renew_1 : decode cX4_renew 1 = .ok (.invokestatic 94, 3) := by decide +kernel
theorem dX4_renew_4 : decode cX4_renew 4 = .ok (.ifCond .eq 20, 3) := by decide +kernel
theorem dX4_renew_7 : decode cX4_renew 7 = .ok (.iload_n 2, 1) := by decide +kernel
theorem dX4_renew_8 : decode cX4_renew 8 = .ok (.iconst 0, 1) := by decide +kernel
theorem dX4_renew_9 : decode cX4_renew 9 = .ok (.bipush 60, 2) := by decide +kernel
theorem dX4_renew_11 : decode cX4_renew 11 = .ok (.invokestatic 53, 3) := by decide +kernel
theorem dX4_renew_14 : decode cX4_renew 14 = .ok (.ifCond .eq 10, 3) := by decide +kernel
theorem dX4_renew_17 : decode cX4_renew 17 = .ok (.iload_n 3, 1) := by decide +kernel
theorem dX4_renew_18 : decode cX4_renew 18 = .ok (.invokestatic 160, 3) := by decide +kernel
theorem dX4_renew_21 : decode cX4_renew 21 = .ok (.ifCond .ne 5, 3) := by decide +kernel
theorem dX4_renew_24 : decode cX4_renew 24 = .ok (.iconst (-1), 1) := by decide +kernel
theorem dX4_renew_25 : decode cX4_renew 25 = .ok (.ireturn, 1) := by decide +kernel
theorem dX4_renew_26 : decode cX4_renew 26 = .ok (.iload 4, 2) := by decide +kernel
theorem dX4_renew_28 : decode cX4_renew 28 = .ok (.iconst 0, 1) := by decide +kernel
theorem dX4_renew_29 : decode cX4_renew 29 = .ok (.bipush 6, 2) := by decide +kernel
theorem dX4_renew_31 : decode cX4_renew 31 = .ok (.invokestatic 53, 3) := by decide +kernel
theorem dX4_renew_34 : decode cX4_renew 34 = .ok (.ifCond .eq 13, 3) := by decide +kernel
theorem dX4_renew_37 : decode cX4_renew 37 = .ok (.iload 5, 2) := by decide +kernel
theorem dX4_renew_39 : decode cX4_renew 39 = .ok (.iconst 0, 1) := by decide +kernel
theorem dX4_renew_40 : decode cX4_renew 40 = .ok (.iconst 1, 1) := by decide +kernel
theorem dX4_renew_41 : decode cX4_renew 41 = .ok (.invokestatic 53, 3) := by decide +kernel
theorem dX4_renew_44 : decode cX4_renew 44 = .ok (.ifCond .ne 5, 3) := by decide +kernel
theorem dX4_renew_47 : decode cX4_renew 47 = .ok (.iconst (-1), 1) := by decide +kernel
theorem dX4_renew_48 : decode cX4_renew 48 = .ok (.ireturn, 1) := by decide +kernel
theorem dX4_renew_49 : decode cX4_renew 49 = .ok (.aload_n 0, 1) := by decide +kernel
theorem dX4_renew_50 : decode cX4_renew 50 = .ok (.iload_n 1, 1) := by decide +kernel
theorem dX4_renew_51 : decode cX4_renew 51 = .ok (.iload_n 2, 1) := by decide +kernel
theorem dX4_renew_52 : decode cX4_renew 52 = .ok (.iload_n 3, 1) := by decide +kernel
theorem dX4_renew_53 : decode cX4_renew 53 = .ok (.iload 4, 2) := by decide +kernel
theorem dX4_renew_55 : decode cX4_renew 55 = .ok (.invokevirtual 185, 3) := by decide +kernel
theorem dX4_renew_58 : decode cX4_renew 58 = .ok (.istore 6, 2) := by decide +kernel
theorem dX4_renew_60 : decode cX4_renew 60 = .ok (.iload 6, 2) := by decide +kernel
theorem dX4_renew_62 : decode cX4_renew 62 = .ok (.ifCond .ge 6, 3) := by decide +kernel
theorem dX4_renew_65 : decode cX4_renew 65 = .ok (.bipush (-4), 2) := by decide +kernel
theorem dX4_renew_67 : decode cX4_renew 67 = .ok (.ireturn, 1) := by decide +kernel
theorem dX4_renew_68 : decode cX4_renew 68 = .ok (.iload 5, 2) := by decide +kernel
theorem dX4_renew_70 : decode cX4_renew 70 = .ok (.ifCond .ne 11, 3) := by decide +kernel
theorem dX4_renew_73 : decode cX4_renew 73 = .ok (.iload 6, 2) := by decide +kernel
theorem dX4_renew_75 : decode cX4_renew 75 = .ok (.invokestatic 189, 3) := by decide +kernel
theorem dX4_renew_78 : decode cX4_renew 78 = .ok (.goto 5, 3) := by decide +kernel
theorem dX4_renew_81 : decode cX4_renew 81 = .ok (.iload 6, 2) := by decide +kernel
theorem dX4_renew_83 : decode cX4_renew 83 = .ok (.ireturn, 1) := by decide +kernel
set_option maxRecDepth 20000 in
theorem ggX4_table_X4_within : GoodIn wsX4_table wsX4_within := goodIn_r _ [6] (by decide +kernel) (by decide +kernel)
set_option maxRecDepth 20000 in
theorem gX4_table_X4_within : GoodIn wsX4_table (va_wsS RX4 53 yX4_within wsX4_within) := goodIn_app (goodIn_of _ (by decide +kernel)) ggX4_table_X4_within
set_option maxRecDepth 20000 in
theorem ggX4_table_X4_isHeat : GoodIn wsX4_table wsX4_isHeat := goodIn_r _ [9, 3, 4, 5, 6] (by decide +kernel) (by decide +kernel)
set_option maxRecDepth 20000 in
theorem gX4_table_X4_isHeat : GoodIn wsX4_table (va_wsS RX4 160 yX4_isHeat wsX4_isHeat) := goodIn_app (goodIn_of _ (by decide +kernel)) ggX4_table_X4_isHeat
set_option maxRecDepth 20000 in
theorem ggX4_table_X4_layBestOrder : GoodIn wsX4_table wsX4_layBestOrder := goodIn_r _ [13, 14, 15, 1, 16, 17, 18, 19, 2, 20, 21, 22, 23, 24, 25, 26, 27, 28, 29, 30, 31, 32, 33, 34, 35, 36, 37, 38, 39, 40, 41, 42, 5, 43, 44, 45, 46, 47, 48, 49, 50, 51, 52, 53, 54, 55, 56, 57, 58, 59, 60, 61, 62, 63, 64, 65, 66, 67, 68, 69, 70, 71, 72, 73, 74, 75, 76, 77, 78, 79, 80, 81, 82, 83, 84, 85, 86, 87, 88, 89, 90, 91, 92, 93, 94, 95, 96, 97, 98, 99, 100, 101, 102, 103, 104, 105, 106, 107, 108, 109, 110, 111] (by decide +kernel) (by decide +kernel)
set_option maxRecDepth 20000 in
theorem gX4_table_X4_layBestOrder : GoodIn wsX4_table (wsV RX4 194 RX4 yX4_layBestOrder wsX4_layBestOrder) := goodIn_app (goodIn_of _ (by decide +kernel)) ggX4_table_X4_layBestOrder
theorem dX4_table_0 : decode cX4_table 0 = .ok (.iload_n 1, 1) := by decide +kernel
theorem dX4_table_1 : decode cX4_table 1 = .ok (.iconst 1, 1) := by decide +kernel
theorem dX4_table_2 : decode cX4_table 2 = .ok (.bipush 20, 2) := by decide +kernel
theorem dX4_table_4 : decode cX4_table 4 = .ok (.invokestatic 53, 3) := by decide +kernel
theorem dX4_table_7 : decode cX4_table 7 = .ok (.ifCond .eq 15, 3) := by decide +kernel
theorem dX4_table_10 : decode cX4_table 10 = .ok (.iload_n 2, 1) := by decide +kernel
theorem dX4_table_11 : decode cX4_table 11 = .ok (.invokestatic 160, 3) := by decide +kernel
theorem dX4_table_14 : decode cX4_table 14 = .ok (.ifCond .eq 8, 3) := by decide +kernel
theorem dX4_table_17 : decode cX4_table 17 = .ok (.iload_n 3, 1) := by decide +kernel
theorem dX4_table_18 : decode cX4_table 18 = .ok (.iconst (-1), 1) := by decide +kernel
theorem dX4_table_19 : decode cX4_table 19 = .ok (.if_icmp .ge 5, 3) := by decide +kernel
theorem dX4_table_22 : decode cX4_table 22 = .ok (.iconst (-1), 1) := by decide +kernel
theorem dX4_table_23 : decode cX4_table 23 = .ok (.ireturn, 1) := by decide +kernel
theorem dX4_table_24 : decode cX4_table 24 = .ok (.iload_n 3, 1) := by decide +kernel
theorem dX4_table_25 : decode cX4_table 25 = .ok (.aload_n 0, 1) := by decide +kernel
theorem dX4_table_26 : decode cX4_table 26 = .ok (.getfield 10, 3) := by decide +kernel
theorem dX4_table_29 : decode cX4_table 29 = .ok (.getfield 57, 3) := by decide +kernel
theorem dX4_table_32 : decode cX4_table 32 = .ok (.if_icmp .lt 6, 3) := by decide +kernel
theorem dX4_table_35 : decode cX4_table 35 = .ok (.bipush (-4), 2) := by decide +kernel
theorem dX4_table_37 : decode cX4_table 37 = .ok (.ireturn, 1) := by decide +kernel
theorem dX4_table_38 : decode cX4_table 38 = .ok (.aload_n 0, 1) := by decide +kernel
theorem dX4_table_39 : decode cX4_table 39 = .ok (.iload_n 1, 1) := by decide +kernel
theorem dX4_table_40 : decode cX4_table 40 = .ok (.iload_n 2, 1) := by decide +kernel
theorem dX4_table_41 : decode cX4_table 41 = .ok (.invokevirtual 194, 3) := by decide +kernel
theorem dX4_table_44 : decode cX4_table 44 = .ok (.istore 4, 2) := by decide +kernel
theorem dX4_table_46 : decode cX4_table 46 = .ok (.iload_n 3, 1) := by decide +kernel
theorem dX4_table_47 : decode cX4_table 47 = .ok (.ifCond .ge 8, 3) := by decide +kernel
theorem dX4_table_50 : decode cX4_table 50 = .ok (.iload 4, 2) := by decide +kernel
theorem dX4_table_52 : decode cX4_table 52 = .ok (.goto 9, 3) := by decide +kernel
theorem dX4_table_55 : decode cX4_table 55 = .ok (.aload_n 0, 1) := by decide +kernel
theorem dX4_table_56 : decode cX4_table 56 = .ok (.getfield 36, 3) := by decide +kernel
theorem dX4_table_59 : decode cX4_table 59 = .ok (.iload_n 3, 1) := by decide +kernel
theorem dX4_table_60 : decode cX4_table 60 = .ok (.iaload, 1) := by decide +kernel
theorem dX4_table_61 : decode cX4_table 61 = .ok (.ireturn, 1) := by decide +kernel
set_option maxRecDepth 20000 in
theorem ggX4_rivals_X4_within : GoodIn wsX4_rivals wsX4_within := goodIn_r _ [5] (by decide +kernel) (by decide +kernel)
set_option maxRecDepth 20000 in
theorem gX4_rivals_X4_within : GoodIn wsX4_rivals (va_wsS RX4 53 yX4_within wsX4_within) := goodIn_app (goodIn_of _ (by decide +kernel)) ggX4_rivals_X4_within
theorem dX4_rivals_0 : decode cX4_rivals 0 = .ok (.iload_n 1, 1) := by decide +kernel
theorem dX4_rivals_1 : decode cX4_rivals 1 = .ok (.iconst 0, 1) := by decide +kernel
theorem dX4_rivals_2 : decode cX4_rivals 2 = .ok (.iconst 1, 1) := by decide +kernel
theorem dX4_rivals_3 : decode cX4_rivals 3 = .ok (.invokestatic 53, 3) := by decide +kernel
theorem dX4_rivals_6 : decode cX4_rivals 6 = .ok (.ifCond .ne 5, 3) := by decide +kernel
theorem dX4_rivals_9 : decode cX4_rivals 9 = .ok (.iconst (-1), 1) := by decide +kernel
theorem dX4_rivals_10 : decode cX4_rivals 10 = .ok (.ireturn, 1) := by decide +kernel
theorem dX4_rivals_11 : decode cX4_rivals 11 = .ok (.iconst 0, 1) := by decide +kernel
theorem dX4_rivals_12 : decode cX4_rivals 12 = .ok (.istore_n 2, 1) := by decide +kernel
theorem dX4_rivals_13 : decode cX4_rivals 13 = .ok (.bipush (-4), 2) := by decide +kernel
theorem dX4_rivals_15 : decode cX4_rivals 15 = .ok (.istore_n 3, 1) := by decide +kernel
theorem dX4_rivals_16 : decode cX4_rivals 16 = .ok (.iconst 0, 1) := by decide +kernel
theorem dX4_rivals_17 : decode cX4_rivals 17 = .ok (.istore 4, 2) := by decide +kernel
theorem dX4_rivals_19 : decode cX4_rivals 19 = .ok (.iload 4, 2) := by decide +kernel
theorem dX4_rivals_21 : decode cX4_rivals 21 = .ok (.aload_n 0, 1) := by decide +kernel
theorem dX4_rivals_22 : decode cX4_rivals 22 = .ok (.getfield 10, 3) := by decide +kernel
theorem dX4_rivals_25 : decode cX4_rivals 25 = .ok (.getfield 57, 3) := by decide +kernel
theorem dX4_rivals_28 : decode cX4_rivals 28 = .ok (.if_icmp .ge 92, 3) := by decide +kernel
theorem dX4_rivals_31 : decode cX4_rivals 31 = .ok (.iload 4, 2) := by decide +kernel
theorem dX4_rivals_33 : decode cX4_rivals 33 = .ok (.iconst 1, 1) := by decide +kernel
theorem dX4_rivals_34 : decode cX4_rivals 34 = .ok (.iadd, 1) := by decide +kernel
theorem dX4_rivals_35 : decode cX4_rivals 35 = .ok (.istore 5, 2) := by decide +kernel
theorem dX4_rivals_37 : decode cX4_rivals 37 = .ok (.iload 5, 2) := by decide +kernel
theorem dX4_rivals_39 : decode cX4_rivals 39 = .ok (.aload_n 0, 1) := by decide +kernel
theorem dX4_rivals_40 : decode cX4_rivals 40 = .ok (.getfield 10, 3) := by decide +kernel
theorem dX4_rivals_43 : decode cX4_rivals 43 = .ok (.getfield 57, 3) := by decide +kernel
theorem dX4_rivals_46 : decode cX4_rivals 46 = .ok (.if_icmp .ge 68, 3) := by decide +kernel
theorem dX4_rivals_49 : decode cX4_rivals 49 = .ok (.aload_n 0, 1) := by decide +kernel
theorem dX4_rivals_50 : decode cX4_rivals 50 = .ok (.getfield 10, 3) := by decide +kernel
theorem dX4_rivals_53 : decode cX4_rivals 53 = .ok (.getfield 75, 3) := by decide +kernel
theorem dX4_rivals_56 : decode cX4_rivals 56 = .ok (.iload 4, 2) := by decide +kernel
theorem dX4_rivals_58 : decode cX4_rivals 58 = .ok (.laload, 1) := by decide +kernel
theorem dX4_rivals_59 : decode cX4_rivals 59 = .ok (.lconst 0, 1) := by decide +kernel
theorem dX4_rivals_60 : decode cX4_rivals 60 = .ok (.lcmp, 1) := by decide +kernel
theorem dX4_rivals_61 : decode cX4_rivals 61 = .ok (.ifCond .eq 47, 3) := by decide +kernel
theorem dX4_rivals_64 : decode cX4_rivals 64 = .ok (.aload_n 0, 1) := by decide +kernel
theorem dX4_rivals_65 : decode cX4_rivals 65 = .ok (.getfield 10, 3) := by decide +kernel
theorem dX4_rivals_68 : decode cX4_rivals 68 = .ok (.getfield 75, 3) := by decide +kernel
theorem dX4_rivals_71 : decode cX4_rivals 71 = .ok (.iload 4, 2) := by decide +kernel
theorem dX4_rivals_73 : decode cX4_rivals 73 = .ok (.laload, 1) := by decide +kernel
theorem dX4_rivals_74 : decode cX4_rivals 74 = .ok (.aload_n 0, 1) := by decide +kernel
theorem dX4_rivals_75 : decode cX4_rivals 75 = .ok (.getfield 10, 3) := by decide +kernel
theorem dX4_rivals_78 : decode cX4_rivals 78 = .ok (.getfield 75, 3) := by decide +kernel
theorem dX4_rivals_81 : decode cX4_rivals 81 = .ok (.iload 5, 2) := by decide +kernel
theorem dX4_rivals_83 : decode cX4_rivals 83 = .ok (.laload, 1) := by decide +kernel
theorem dX4_rivals_84 : decode cX4_rivals 84 = .ok (.lcmp, 1) := by decide +kernel
theorem dX4_rivals_85 : decode cX4_rivals 85 = .ok (.ifCond .ne 23, 3) := by decide +kernel
theorem dX4_rivals_88 : decode cX4_rivals 88 = .ok (.iload_n 2, 1) := by decide +kernel
theorem dX4_rivals_89 : decode cX4_rivals 89 = .ok (.ifCond .ne 14, 3) := by decide +kernel
theorem dX4_rivals_92 : decode cX4_rivals 92 = .ok (.bipush 10, 2) := by decide +kernel
theorem dX4_rivals_94 : decode cX4_rivals 94 = .ok (.iload 4, 2) := by decide +kernel
theorem dX4_rivals_96 : decode cX4_rivals 96 = .ok (.imul, 1) := by decide +kernel
theorem dX4_rivals_97 : decode cX4_rivals 97 = .ok (.iload 5, 2) := by decide +kernel
theorem dX4_rivals_99 : decode cX4_rivals 99 = .ok (.iadd, 1) := by decide +kernel
theorem dX4_rivals_100 : decode cX4_rivals 100 = .ok (.goto 4, 3) := by decide +kernel
theorem dX4_rivals_103 : decode cX4_rivals 103 = .ok (.iload_n 3, 1) := by decide +kernel
theorem dX4_rivals_104 : decode cX4_rivals 104 = .ok (.istore_n 3, 1) := by decide +kernel
theorem dX4_rivals_105 : decode cX4_rivals 105 = .ok (.iinc 2 1, 3) := by decide +kernel
theorem dX4_rivals_108 : decode cX4_rivals 108 = .ok (.iinc 5 1, 3) := by decide +kernel
theorem dX4_rivals_111 : decode cX4_rivals 111 = .ok (.goto (-74), 3) := by decide +kernel
theorem dX4_rivals_114 : decode cX4_rivals 114 = .ok (.iinc 4 1, 3) := by decide +kernel
theorem dX4_rivals_117 : decode cX4_rivals 117 = .ok (.goto (-98), 3) := by decide +kernel
theorem dX4_rivals_120 : decode cX4_rivals 120 = .ok (.iload_n 1, 1) := by decide +kernel
theorem dX4_rivals_121 : decode cX4_rivals 121 = .ok (.ifCond .ne 7, 3) := by decide +kernel
theorem dX4_rivals_124 : decode cX4_rivals 124 = .ok (.iload_n 2, 1) := by decide +kernel
theorem dX4_rivals_125 : decode cX4_rivals 125 = .ok (.goto 4, 3) := by decide +kernel
theorem dX4_rivals_128 : decode cX4_rivals 128 = .ok (.iload_n 3, 1) := by decide +kernel
theorem dX4_rivals_129 : decode cX4_rivals 129 = .ok (.ireturn, 1) := by decide +kernel
set_option maxRecDepth 20000 in
theorem ggX4_from_X4_isThing : GoodIn wsX4_from wsX4_isThing := goodIn_r _ [6, 7, 8, 5, 9] (by decide +kernel) (by decide +kernel)
set_option maxRecDepth 20000 in
theorem gX4_from_X4_isThing : GoodIn wsX4_from (va_wsS RX4 94 yX4_isThing wsX4_isThing) := goodIn_app (goodIn_of _ (by decide +kernel)) ggX4_from_X4_isThing
set_option maxRecDepth 20000 in
theorem ggX4_from_X4_within : GoodIn wsX4_from wsX4_within := goodIn_r _ [9] (by decide +kernel) (by decide +kernel)
set_option maxRecDepth 20000 in
theorem gX4_from_X4_within : GoodIn wsX4_from (va_wsS RX4 53 yX4_within wsX4_within) := goodIn_app (goodIn_of _ (by decide +kernel)) ggX4_from_X4_within
set_option maxRecDepth 20000 in
theorem ggX4_from_X4_isHeat : GoodIn wsX4_from wsX4_isHeat := goodIn_r _ [12, 7, 8, 5, 9] (by decide +kernel) (by decide +kernel)
set_option maxRecDepth 20000 in
theorem gX4_from_X4_isHeat : GoodIn wsX4_from (va_wsS RX4 160 yX4_isHeat wsX4_isHeat) := goodIn_app (goodIn_of _ (by decide +kernel)) ggX4_from_X4_isHeat
set_option maxRecDepth 20000 in
theorem ggX4_from_X0_become : GoodIn wsX4_from wsX0_become := goodIn_r _ [16, 17, 18, 19, 20, 21, 22, 23, 24, 25, 26, 27, 28, 29, 107, 108, 109, 110, 111, 112, 113, 114, 115, 116] (by decide +kernel) (by decide +kernel)
set_option maxRecDepth 20000 in
theorem gX4_from_X0_become_n130 : GoodIn wsX4_from (wsX0_become) := ggX4_from_X0_become
set_option maxRecDepth 20000 in
theorem ggX4_from_X0_forgetThing : GoodIn wsX4_from wsX0_forgetThing := goodIn_r _ [32, 25, 23, 33, 24, 34, 35, 5, 36, 107, 108, 109, 110, 111, 112, 113, 114, 115, 116] (by decide +kernel) (by decide +kernel)
set_option maxRecDepth 20000 in
theorem gX4_from_X0_forgetThing_n197 : GoodIn wsX4_from (wsX0_forgetThing) := ggX4_from_X0_forgetThing
set_option maxRecDepth 20000 in
theorem ggX4_from_X0_learn : GoodIn wsX4_from wsX0_learn := goodIn_r _ [39, 23, 24, 34, 33, 35, 5, 36, 107, 108, 109, 110, 111, 112, 113, 114, 115, 116] (by decide +kernel) (by decide +kernel)
set_option maxRecDepth 20000 in
theorem gX4_from_X0_learn_n156 : GoodIn wsX4_from (wsX0_learn) := ggX4_from_X0_learn
set_option maxRecDepth 20000 in
theorem ggX4_from_X0_firstOut : GoodIn wsX4_from wsX0_firstOut := goodIn_r _ [42, 43, 44, 45, 14, 46, 25, 47, 48, 49, 50, 23, 51, 52, 53, 54, 24, 17, 28, 55, 27, 56, 5, 57, 58, 59, 60, 61, 62, 63, 64, 65, 66, 67, 68, 33, 69, 70, 71, 72, 73, 74, 75, 22, 76, 77, 78, 79, 80, 81, 82, 83, 84, 85, 86, 87, 88, 89, 90, 91, 92, 93, 94, 95, 96, 26, 107, 108, 109, 110, 111, 112, 113, 114, 115, 116] (by decide +kernel) (by decide +kernel)
set_option maxRecDepth 20000 in
theorem gX4_from_X0_firstOut_n175 : GoodIn wsX4_from (wsX0_firstOut) := ggX4_from_X0_firstOut
theorem dX4_from_0 : decode cX4_from 0 = .ok (.iload_n 1, 1) := by decide +kernel
theorem dX4_from_1 : decode cX4_from 1 = .ok (.invokestatic 94, 3) := by decide +kernel
theorem dX4_from_4 : decode cX4_from 4 = .ok (.ifCond .eq 20, 3) := by decide +kernel
theorem dX4_from_7 : decode cX4_from 7 = .ok (.iload_n 2, 1) := by decide +kernel
theorem dX4_from_8 : decode cX4_from 8 = .ok (.iconst 0, 1) := by decide +kernel
theorem dX4_from_9 : decode cX4_from 9 = .ok (.bipush 60, 2) := by decide +kernel
theorem dX4_from_11 : decode cX4_from 11 = .ok (.invokestatic 53, 3) := by decide +kernel
theorem dX4_from_14 : decode cX4_from 14 = .ok (.ifCond .eq 10, 3) := by decide +kernel
theorem dX4_from_17 : decode cX4_from 17 = .ok (.iload_n 3, 1) := by decide +kernel
theorem dX4_from_18 : decode cX4_from 18 = .ok (.invokestatic 160, 3) := by decide +kernel
theorem dX4_from_21 : decode cX4_from 21 = .ok (.ifCond .ne 5, 3) := by decide +kernel
theorem dX4_from_24 : decode cX4_from 24 = .ok (.iconst (-1), 1) := by decide +kernel
theorem dX4_from_25 : decode cX4_from 25 = .ok (.ireturn, 1) := by decide +kernel
theorem dX4_from_26 : decode cX4_from 26 = .ok (.iconst 0, 1) := by decide +kernel
theorem dX4_from_27 : decode cX4_from 27 = .ok (.istore 4, 2) := by decide +kernel
theorem dX4_from_29 : decode cX4_from 29 = .ok (.iconst 0, 1) := by decide +kernel
theorem dX4_from_30 : decode cX4_from 30 = .ok (.istore 5, 2) := by decide +kernel
theorem dX4_from_32 : decode cX4_from 32 = .ok (.iload 5, 2) := by decide +kernel
theorem dX4_from_34 : decode cX4_from 34 = .ok (.aload_n 0, 1) := by decide +kernel
theorem dX4_from_35 : decode cX4_from 35 = .ok (.getfield 10, 3) := by decide +kernel
theorem dX4_from_38 : decode cX4_from 38 = .ok (.getfield 57, 3) := by decide +kernel
theorem dX4_from_41 : decode cX4_from 41 = .ok (.if_icmp .ge 62, 3) := by decide +kernel
theorem dX4_from_44 : decode cX4_from 44 = .ok (.aload_n 0, 1) := by decide +kernel
theorem dX4_from_45 : decode cX4_from 45 = .ok (.getfield 29, 3) := by decide +kernel
theorem dX4_from_48 : decode cX4_from 48 = .ok (.aload_n 0, 1) := by decide +kernel
theorem dX4_from_49 : decode cX4_from 49 = .ok (.getfield 10, 3) := by decide +kernel
theorem dX4_from_52 : decode cX4_from 52 = .ok (.invokevirtual 130, 3) := by decide +kernel
theorem dX4_from_55 : decode cX4_from 55 = .ok (.aload_n 0, 1) := by decide +kernel
theorem dX4_from_56 : decode cX4_from 56 = .ok (.getfield 29, 3) := by decide +kernel
theorem dX4_from_59 : decode cX4_from 59 = .ok (.iload_n 1, 1) := by decide +kernel
theorem dX4_from_60 : decode cX4_from 60 = .ok (.invokevirtual 197, 3) := by decide +kernel
theorem dX4_from_63 : decode cX4_from 63 = .ok (.aload_n 0, 1) := by decide +kernel
theorem dX4_from_64 : decode cX4_from 64 = .ok (.getfield 29, 3) := by decide +kernel
theorem dX4_from_67 : decode cX4_from 67 = .ok (.iload 5, 2) := by decide +kernel
theorem dX4_from_69 : decode cX4_from 69 = .ok (.iload_n 1, 1) := by decide +kernel
theorem dX4_from_70 : decode cX4_from 70 = .ok (.iconst 0, 1) := by decide +kernel
theorem dX4_from_71 : decode cX4_from 71 = .ok (.invokevirtual 156, 3) := by decide +kernel
theorem dX4_from_74 : decode cX4_from 74 = .ok (.aload_n 0, 1) := by decide +kernel
theorem dX4_from_75 : decode cX4_from 75 = .ok (.getfield 29, 3) := by decide +kernel
theorem dX4_from_78 : decode cX4_from 78 = .ok (.iload_n 1, 1) := by decide +kernel
theorem dX4_from_79 : decode cX4_from 79 = .ok (.iload_n 2, 1) := by decide +kernel
theorem dX4_from_80 : decode cX4_from 80 = .ok (.iload_n 3, 1) := by decide +kernel
theorem dX4_from_81 : decode cX4_from 81 = .ok (.invokevirtual 175, 3) := by decide +kernel
theorem dX4_from_84 : decode cX4_from 84 = .ok (.iload_n 2, 1) := by decide +kernel
theorem dX4_from_85 : decode cX4_from 85 = .ok (.if_icmp .ne 12, 3) := by decide +kernel
theorem dX4_from_88 : decode cX4_from 88 = .ok (.iload 4, 2) := by decide +kernel
theorem dX4_from_90 : decode cX4_from 90 = .ok (.iconst 1, 1) := by decide +kernel
theorem dX4_from_91 : decode cX4_from 91 = .ok (.iload 5, 2) := by decide +kernel
theorem dX4_from_93 : decode cX4_from 93 = .ok (.ishl, 1) := by decide +kernel
theorem dX4_from_94 : decode cX4_from 94 = .ok (.ior, 1) := by decide +kernel
theorem dX4_from_95 : decode cX4_from 95 = .ok (.istore 4, 2) := by decide +kernel
theorem dX4_from_97 : decode cX4_from 97 = .ok (.iinc 5 1, 3) := by decide +kernel
theorem dX4_from_100 : decode cX4_from 100 = .ok (.goto (-68), 3) := by decide +kernel
theorem dX4_from_103 : decode cX4_from 103 = .ok (.iload 4, 2) := by decide +kernel
theorem dX4_from_105 : decode cX4_from 105 = .ok (.ireturn, 1) := by decide +kernel
set_option maxRecDepth 20000 in
theorem ggX4_image_X0_become : GoodIn wsX4_image wsX0_become := goodIn_r _ [9, 10, 11, 12, 13, 14, 15, 16, 17, 18, 19, 20, 21, 22, 44, 45, 46, 47, 48, 49, 50, 51, 52, 53] (by decide +kernel) (by decide +kernel)
set_option maxRecDepth 20000 in
theorem gX4_image_X0_become_n130 : GoodIn wsX4_image (wsX0_become) := ggX4_image_X0_become
set_option maxRecDepth 20000 in
theorem ggX4_image_X1_become : GoodIn wsX4_image wsX1_become := goodIn_r _ [26, 27, 28, 12, 13, 14, 29, 30, 31, 32, 33, 54, 55, 56, 57, 58, 59] (by decide +kernel) (by decide +kernel)
set_option maxRecDepth 20000 in
theorem gX4_image_X1_become_n201 : GoodIn wsX4_image (wsX1_become) := ggX4_image_X1_become
theorem dX4_image_0 : decode cX4_image 0 = .ok (.aload_n 0, 1) := by decide +kernel
theorem dX4_image_1 : decode cX4_image 1 = .ok (.getfield 23, 3) := by decide +kernel
theorem dX4_image_4 : decode cX4_image 4 = .ok (.aload_n 0, 1) := by decide +kernel
theorem dX4_image_5 : decode cX4_image 5 = .ok (.getfield 10, 3) := by decide +kernel
theorem dX4_image_8 : decode cX4_image 8 = .ok (.invokevirtual 130, 3) := by decide +kernel
theorem dX4_image_11 : decode cX4_image 11 = .ok (.aload_n 0, 1) := by decide +kernel
theorem dX4_image_12 : decode cX4_image 12 = .ok (.getfield 26, 3) := by decide +kernel
theorem dX4_image_15 : decode cX4_image 15 = .ok (.aload_n 0, 1) := by decide +kernel
theorem dX4_image_16 : decode cX4_image 16 = .ok (.getfield 19, 3) := by decide +kernel
theorem dX4_image_19 : decode cX4_image 19 = .ok (.invokevirtual 201, 3) := by decide +kernel
theorem dX4_image_22 : decode cX4_image 22 = .ok (.aload_n 0, 1) := by decide +kernel
theorem dX4_image_23 : decode cX4_image 23 = .ok (.iconst 1, 1) := by decide +kernel
theorem dX4_image_24 : decode cX4_image 24 = .ok (.putfield 204, 3) := by decide +kernel
theorem dX4_image_27 : decode cX4_image 27 = .ok (.iconst 1, 1) := by decide +kernel
theorem dX4_image_28 : decode cX4_image 28 = .ok (.ireturn, 1) := by decide +kernel
set_option maxRecDepth 20000 in
theorem ggX4_restore_X0_become : GoodIn wsX4_restore wsX0_become := goodIn_r _ [9, 10, 11, 12, 13, 14, 15, 16, 17, 18, 19, 20, 21, 22, 44, 45, 46, 47, 48, 49, 50, 51, 52, 53] (by decide +kernel) (by decide +kernel)
set_option maxRecDepth 20000 in
theorem gX4_restore_X0_become_n130 : GoodIn wsX4_restore (wsX0_become) := ggX4_restore_X0_become
set_option maxRecDepth 20000 in
theorem ggX4_restore_X1_become : GoodIn wsX4_restore wsX1_become := goodIn_r _ [26, 27, 28, 12, 13, 14, 29, 30, 31, 32, 33, 54, 55, 56, 57, 58, 59] (by decide +kernel) (by decide +kernel)
set_option maxRecDepth 20000 in
theorem gX4_restore_X1_become_n201 : GoodIn wsX4_restore (wsX1_become) := ggX4_restore_X1_become
theorem dX4_restore_0 : decode cX4_restore 0 = .ok (.aload_n 0, 1) := by decide +kernel
theorem dX4_restore_1 : decode cX4_restore 1 = .ok (.getfield 204, 3) := by decide +kernel
theorem dX4_restore_4 : decode cX4_restore 4 = .ok (.ifCond .ne 6, 3) := by decide +kernel
theorem dX4_restore_7 : decode cX4_restore 7 = .ok (.bipush (-4), 2) := by decide +kernel
theorem dX4_restore_9 : decode cX4_restore 9 = .ok (.ireturn, 1) := by decide +kernel
theorem dX4_restore_10 : decode cX4_restore 10 = .ok (.aload_n 0, 1) := by decide +kernel
theorem dX4_restore_11 : decode cX4_restore 11 = .ok (.getfield 10, 3) := by decide +kernel
theorem dX4_restore_14 : decode cX4_restore 14 = .ok (.aload_n 0, 1) := by decide +kernel
theorem dX4_restore_15 : decode cX4_restore 15 = .ok (.getfield 23, 3) := by decide +kernel
theorem dX4_restore_18 : decode cX4_restore 18 = .ok (.invokevirtual 130, 3) := by decide +kernel
theorem dX4_restore_21 : decode cX4_restore 21 = .ok (.aload_n 0, 1) := by decide +kernel
theorem dX4_restore_22 : decode cX4_restore 22 = .ok (.getfield 19, 3) := by decide +kernel
theorem dX4_restore_25 : decode cX4_restore 25 = .ok (.aload_n 0, 1) := by decide +kernel
theorem dX4_restore_26 : decode cX4_restore 26 = .ok (.getfield 26, 3) := by decide +kernel
theorem dX4_restore_29 : decode cX4_restore 29 = .ok (.invokevirtual 201, 3) := by decide +kernel
theorem dX4_restore_32 : decode cX4_restore 32 = .ok (.iconst 1, 1) := by decide +kernel
theorem dX4_restore_33 : decode cX4_restore 33 = .ok (.ireturn, 1) := by decide +kernel
set_option maxRecDepth 20000 in
theorem ggX4_told_X4_isThing : GoodIn wsX4_told wsX4_isThing := goodIn_r _ [5, 6, 7, 4, 8] (by decide +kernel) (by decide +kernel)
set_option maxRecDepth 20000 in
theorem gX4_told_X4_isThing : GoodIn wsX4_told (va_wsS RX4 94 yX4_isThing wsX4_isThing) := goodIn_app (goodIn_of _ (by decide +kernel)) ggX4_told_X4_isThing
set_option maxRecDepth 20000 in
theorem ggX4_told_X4_isSheet : GoodIn wsX4_told wsX4_isSheet := goodIn_r _ [11, 6, 7, 4, 8] (by decide +kernel) (by decide +kernel)
set_option maxRecDepth 20000 in
theorem gX4_told_X4_isSheet : GoodIn wsX4_told (va_wsS RX4 208 yX4_isSheet wsX4_isSheet) := goodIn_app (goodIn_of _ (by decide +kernel)) ggX4_told_X4_isSheet
set_option maxRecDepth 20000 in
theorem ggX4_told_X4_isLane : GoodIn wsX4_told wsX4_isLane := goodIn_r _ [14, 6, 7, 4, 8] (by decide +kernel) (by decide +kernel)
set_option maxRecDepth 20000 in
theorem gX4_told_X4_isLane : GoodIn wsX4_told (va_wsS RX4 211 yX4_isLane wsX4_isLane) := goodIn_app (goodIn_of _ (by decide +kernel)) ggX4_told_X4_isLane
set_option maxRecDepth 20000 in
theorem ggX4_told_X4_within : GoodIn wsX4_told wsX4_within := goodIn_r _ [8] (by decide +kernel) (by decide +kernel)
set_option maxRecDepth 20000 in
theorem gX4_told_X4_within : GoodIn wsX4_told (va_wsS RX4 53 yX4_within wsX4_within) := goodIn_app (goodIn_of _ (by decide +kernel)) ggX4_told_X4_within
set_option maxRecDepth 20000 in
theorem ggX4_told_X2_refusal : GoodIn wsX4_told wsX2_refusal := goodIn_r _ [18, 19, 20, 21, 22, 16, 23, 24, 25, 26, 27, 28, 111, 112, 113] (by decide +kernel) (by decide +kernel)
set_option maxRecDepth 20000 in
theorem gX4_told_X2_refusal_n214 : GoodIn wsX4_told (wsX2_refusal) := ggX4_told_X2_refusal
set_option maxRecDepth 20000 in
theorem ggX4_told_X4_wouldBeAsTold : GoodIn wsX4_told wsX4_wouldBeAsTold := goodIn_r _ [32, 33, 34, 35, 36, 37, 38, 39, 40, 41, 42, 43, 44, 45, 46, 47, 48, 49, 50, 51, 52, 53, 54, 55, 56, 4, 57, 58, 59, 60, 61, 62, 63, 64, 65, 66, 67, 68, 69, 70, 71, 72, 73, 74, 75, 76, 77, 78, 79, 80, 81, 82, 83, 84, 85, 86, 87, 88, 89, 90, 91, 92, 93, 94, 95, 96, 97, 98, 99, 100, 101, 102, 103, 104, 105, 106, 107, 108, 109, 110, 111, 112, 113, 114, 115, 116, 117, 118, 119, 120, 121, 122, 123] (by decide +kernel) (by decide +kernel)
set_option maxRecDepth 20000 in
theorem gX4_told_X4_wouldBeAsTold : GoodIn wsX4_told (wsV RX4 217 RX4 yX4_wouldBeAsTold wsX4_wouldBeAsTold) := goodIn_app (goodIn_of _ (by decide +kernel)) ggX4_told_X4_wouldBeAsTold
theorem dX4_told_0 : decode cX4_told 0 = .ok (.iload_n 1, 1) := by decide +kernel
theorem dX4_told_1 : decode cX4_told 1 = .ok (.invokestatic 94, 3) := by decide +kernel
theorem dX4_told_4 : decode cX4_told 4 = .ok (.ifCond .eq 28, 3) := by decide +kernel
theorem dX4_told_7 : decode cX4_told 7 = .ok (.iload_n 2, 1) := by decide +kernel
theorem dX4_told_8 : decode cX4_told 8 = .ok (.invokestatic 208, 3) := by decide +kernel
theorem dX4_told_11 : decode cX4_told 11 = .ok (.ifCond .eq 21, 3) := by decide +kernel
theorem dX4_told_14 : decode cX4_told 14 = .ok (.iload_n 3, 1) := by decide +kernel
theorem dX4_told_15 : decode cX4_told 15 = .ok (.invokestatic 211, 3) := by decide +kernel
theorem dX4_told_18 : decode cX4_told 18 = .ok (.ifCond .eq 14, 3) := by decide +kernel
theorem dX4_told_21 : decode cX4_told 21 = .ok (.iload 5, 2) := by decide +kernel
theorem dX4_told_23 : decode cX4_told 23 = .ok (.iconst 1, 1) := by decide +kernel
theorem dX4_told_24 : decode cX4_told 24 = .ok (.bipush 6, 2) := by decide +kernel
theorem dX4_told_26 : decode cX4_told 26 = .ok (.invokestatic 53, 3) := by decide +kernel
theorem dX4_told_29 : decode cX4_told 29 = .ok (.ifCond .ne 5, 3) := by decide +kernel
theorem dX4_told_32 : decode cX4_told 32 = .ok (.iconst (-1), 1) := by decide +kernel
theorem dX4_told_33 : decode cX4_told 33 = .ok (.ireturn, 1) := by decide +kernel
theorem dX4_told_34 : decode cX4_told 34 = .ok (.aload_n 0, 1) := by decide +kernel
theorem dX4_told_35 : decode cX4_told 35 = .ok (.getfield 48, 3) := by decide +kernel
theorem dX4_told_38 : decode cX4_told 38 = .ok (.iload_n 2, 1) := by decide +kernel
theorem dX4_told_39 : decode cX4_told 39 = .ok (.aaload, 1) := by decide +kernel
theorem dX4_told_40 : decode cX4_told 40 = .ok (.iload_n 3, 1) := by decide +kernel
theorem dX4_told_41 : decode cX4_told 41 = .ok (.iload 4, 2) := by decide +kernel
theorem dX4_told_43 : decode cX4_told 43 = .ok (.iload 5, 2) := by decide +kernel
theorem dX4_told_45 : decode cX4_told 45 = .ok (.invokevirtual 214, 3) := by decide +kernel
theorem dX4_told_48 : decode cX4_told 48 = .ok (.istore 6, 2) := by decide +kernel
theorem dX4_told_50 : decode cX4_told 50 = .ok (.iload 6, 2) := by decide +kernel
theorem dX4_told_52 : decode cX4_told 52 = .ok (.ifCond .eq 6, 3) := by decide +kernel
theorem dX4_told_55 : decode cX4_told 55 = .ok (.iload 6, 2) := by decide +kernel
theorem dX4_told_57 : decode cX4_told 57 = .ok (.ireturn, 1) := by decide +kernel
theorem dX4_told_58 : decode cX4_told 58 = .ok (.iconst 0, 1) := by decide +kernel
theorem dX4_told_59 : decode cX4_told 59 = .ok (.istore 7, 2) := by decide +kernel
theorem dX4_told_61 : decode cX4_told 61 = .ok (.iconst 0, 1) := by decide +kernel
theorem dX4_told_62 : decode cX4_told 62 = .ok (.istore 8, 2) := by decide +kernel
theorem dX4_told_64 : decode cX4_told 64 = .ok (.iload 8, 2) := by decide +kernel
theorem dX4_told_66 : decode cX4_told 66 = .ok (.bipush 9, 2) := by decide +kernel
theorem dX4_told_68 : decode cX4_told 68 = .ok (.if_icmp .gt 38, 3) := by decide +kernel
theorem dX4_told_71 : decode cX4_told 71 = .ok (.aload_n 0, 1) := by decide +kernel
theorem dX4_told_72 : decode cX4_told 72 = .ok (.iload_n 1, 1) := by decide +kernel
theorem dX4_told_73 : decode cX4_told 73 = .ok (.aload_n 0, 1) := by decide +kernel
theorem dX4_told_74 : decode cX4_told 74 = .ok (.getfield 48, 3) := by decide +kernel
theorem dX4_told_77 : decode cX4_told 77 = .ok (.iload_n 2, 1) := by decide +kernel
theorem dX4_told_78 : decode cX4_told 78 = .ok (.aaload, 1) := by decide +kernel
theorem dX4_told_79 : decode cX4_told 79 = .ok (.iload 4, 2) := by decide +kernel
theorem dX4_told_81 : decode cX4_told 81 = .ok (.iload 5, 2) := by decide +kernel
theorem dX4_told_83 : decode cX4_told 83 = .ok (.iload 8, 2) := by decide +kernel
theorem dX4_told_85 : decode cX4_told 85 = .ok (.invokevirtual 217, 3) := by decide +kernel
theorem dX4_told_88 : decode cX4_told 88 = .ok (.ifCond .eq 12, 3) := by decide +kernel
theorem dX4_told_91 : decode cX4_told 91 = .ok (.iload 7, 2) := by decide +kernel
theorem dX4_told_93 : decode cX4_told 93 = .ok (.iconst 1, 1) := by decide +kernel
theorem dX4_told_94 : decode cX4_told 94 = .ok (.iload 8, 2) := by decide +kernel
theorem dX4_told_96 : decode cX4_told 96 = .ok (.ishl, 1) := by decide +kernel
theorem dX4_told_97 : decode cX4_told 97 = .ok (.ior, 1) := by decide +kernel
theorem dX4_told_98 : decode cX4_told 98 = .ok (.istore 7, 2) := by decide +kernel
theorem dX4_told_100 : decode cX4_told 100 = .ok (.iinc 8 1, 3) := by decide +kernel
theorem dX4_told_103 : decode cX4_told 103 = .ok (.goto (-39), 3) := by decide +kernel
theorem dX4_told_106 : decode cX4_told 106 = .ok (.iload 7, 2) := by decide +kernel
theorem dX4_told_108 : decode cX4_told 108 = .ok (.ireturn, 1) := by decide +kernel
set_option maxRecDepth 20000 in
theorem ggX4_film_X4_isThing : GoodIn wsX4_film wsX4_isThing := goodIn_r _ [7, 8, 9, 6, 10] (by decide +kernel) (by decide +kernel)
set_option maxRecDepth 20000 in
theorem gX4_film_X4_isThing : GoodIn wsX4_film (va_wsS RX4 94 yX4_isThing wsX4_isThing) := goodIn_app (goodIn_of _ (by decide +kernel)) ggX4_film_X4_isThing
set_option maxRecDepth 20000 in
theorem ggX4_film_X4_within : GoodIn wsX4_film wsX4_within := goodIn_r _ [10] (by decide +kernel) (by decide +kernel)
set_option maxRecDepth 20000 in
theorem gX4_film_X4_within : GoodIn wsX4_film (va_wsS RX4 53 yX4_within wsX4_within) := goodIn_app (goodIn_of _ (by decide +kernel)) ggX4_film_X4_within
set_option maxRecDepth 20000 in
theorem ggX4_film_X4_isHeat : GoodIn wsX4_film wsX4_isHeat := goodIn_r _ [13, 8, 9, 6, 10] (by decide +kernel) (by decide +kernel)
set_option maxRecDepth 20000 in
theorem gX4_film_X4_isHeat : GoodIn wsX4_film (va_wsS RX4 160 yX4_isHeat wsX4_isHeat) := goodIn_app (goodIn_of _ (by decide +kernel)) ggX4_film_X4_isHeat
set_option maxRecDepth 20000 in
theorem ggX4_film_X4_isSheet : GoodIn wsX4_film wsX4_isSheet := goodIn_r _ [16, 8, 9, 6, 10] (by decide +kernel) (by decide +kernel)
set_option maxRecDepth 20000 in
theorem gX4_film_X4_isSheet : GoodIn wsX4_film (va_wsS RX4 208 yX4_isSheet wsX4_isSheet) := goodIn_app (goodIn_of _ (by decide +kernel)) ggX4_film_X4_isSheet
set_option maxRecDepth 20000 in
theorem ggX4_film_X4_isLane : GoodIn wsX4_film wsX4_isLane := goodIn_r _ [19, 8, 9, 6, 10] (by decide +kernel) (by decide +kernel)
set_option maxRecDepth 20000 in
theorem gX4_film_X4_isLane : GoodIn wsX4_film (va_wsS RX4 211 yX4_isLane wsX4_isLane) := goodIn_app (goodIn_of _ (by decide +kernel)) ggX4_film_X4_isLane
set_option maxRecDepth 20000 in
theorem ggX4_film_X2_refusal : GoodIn wsX4_film wsX2_refusal := goodIn_r _ [23, 24, 25, 26, 27, 21, 28, 29, 30, 31, 32, 33, 114, 115, 116] (by decide +kernel) (by decide +kernel)
set_option maxRecDepth 20000 in
theorem gX4_film_X2_refusal_n214 : GoodIn wsX4_film (wsX2_refusal) := ggX4_film_X2_refusal
set_option maxRecDepth 20000 in
theorem ggX4_film_X0_become : GoodIn wsX4_film wsX0_become := goodIn_r _ [37, 38, 39, 40, 41, 42, 43, 44, 45, 46, 47, 48, 49, 50, 117, 118, 119, 120, 121, 122, 123, 124, 125, 126] (by decide +kernel) (by decide +kernel)
set_option maxRecDepth 20000 in
theorem gX4_film_X0_become_n130 : GoodIn wsX4_film (wsX0_become) := ggX4_film_X0_become
set_option maxRecDepth 20000 in
theorem ggX4_film_X0_live : GoodIn wsX4_film wsX0_live := goodIn_r _ [53, 46, 45, 38, 49, 54, 48, 55, 6, 56, 57, 58, 59, 60, 61, 62, 63, 64, 65, 66, 35, 67, 44, 68, 69, 70, 71, 72, 73, 74, 75, 43, 76, 77, 78, 79, 80, 81, 82, 83, 84, 85, 86, 87, 88, 89, 90, 91, 92, 93, 94, 95, 96, 47, 117, 118, 119, 120, 121, 122, 123, 124, 125, 126] (by decide +kernel) (by decide +kernel)
set_option maxRecDepth 20000 in
theorem gX4_film_X0_live_n163 : GoodIn wsX4_film (wsX0_live) := ggX4_film_X0_live
set_option maxRecDepth 20000 in
theorem ggX4_film_X0_knowersOf : GoodIn wsX4_film wsX0_knowersOf := goodIn_r _ [99, 46, 44, 117, 118, 119, 120, 121, 122, 123, 124, 125, 126] (by decide +kernel) (by decide +kernel)
set_option maxRecDepth 20000 in
theorem gX4_film_X0_knowersOf_n104 : GoodIn wsX4_film (wsX0_knowersOf) := ggX4_film_X0_knowersOf
set_option maxRecDepth 20000 in
theorem ggX4_film_X2_put : GoodIn wsX4_film wsX2_put := goodIn_r _ [102, 24, 103, 114, 115, 116] (by decide +kernel) (by decide +kernel)
set_option maxRecDepth 20000 in
theorem gX4_film_X2_put_n221 : GoodIn wsX4_film (wsX2_put) := ggX4_film_X2_put
theorem dX4_film_0 : decode cX4_film 0 = .ok (.iload_n 1, 1) := by decide +kernel
theorem dX4_film_1 : decode cX4_film 1 = .ok (.invokestatic 94, 3) := by decide +kernel
theorem dX4_film_4 : decode cX4_film 4 = .ok (.ifCond .eq 36, 3) := by decide +kernel
theorem dX4_film_7 : decode cX4_film 7 = .ok (.iload_n 2, 1) := by decide +kernel
theorem dX4_film_8 : decode cX4_film 8 = .ok (.iconst 1, 1) := by decide +kernel
theorem dX4_film_9 : decode cX4_film 9 = .ok (.bipush 24, 2) := by decide +kernel
theorem dX4_film_11 : decode cX4_film 11 = .ok (.invokestatic 53, 3) := by decide +kernel
theorem dX4_film_14 : decode cX4_film 14 = .ok (.ifCond .eq 26, 3) := by decide +kernel
theorem dX4_film_17 : decode cX4_film 17 = .ok (.iload_n 3, 1) := by decide +kernel
theorem dX4_film_18 : decode cX4_film 18 = .ok (.invokestatic 160, 3) := by decide +kernel
theorem dX4_film_21 : decode cX4_film 21 = .ok (.ifCond .eq 19, 3) := by decide +kernel
theorem dX4_film_24 : decode cX4_film 24 = .ok (.iload 4, 2) := by decide +kernel
theorem dX4_film_26 : decode cX4_film 26 = .ok (.invokestatic 208, 3) := by decide +kernel
theorem dX4_film_29 : decode cX4_film 29 = .ok (.ifCond .eq 11, 3) := by decide +kernel
theorem dX4_film_32 : decode cX4_film 32 = .ok (.iload 5, 2) := by decide +kernel
theorem dX4_film_34 : decode cX4_film 34 = .ok (.invokestatic 211, 3) := by decide +kernel
theorem dX4_film_37 : decode cX4_film 37 = .ok (.ifCond .ne 5, 3) := by decide +kernel
theorem dX4_film_40 : decode cX4_film 40 = .ok (.iconst (-1), 1) := by decide +kernel
theorem dX4_film_41 : decode cX4_film 41 = .ok (.ireturn, 1) := by decide +kernel
theorem dX4_film_42 : decode cX4_film 42 = .ok (.aload_n 0, 1) := by decide +kernel
theorem dX4_film_43 : decode cX4_film 43 = .ok (.getfield 48, 3) := by decide +kernel
theorem dX4_film_46 : decode cX4_film 46 = .ok (.iload 4, 2) := by decide +kernel
theorem dX4_film_48 : decode cX4_film 48 = .ok (.aaload, 1) := by decide +kernel
theorem dX4_film_49 : decode cX4_film 49 = .ok (.astore 7, 2) := by decide +kernel
theorem dX4_film_51 : decode cX4_film 51 = .ok (.aload 7, 2) := by decide +kernel
theorem dX4_film_53 : decode cX4_film 53 = .ok (.iload 5, 2) := by decide +kernel
theorem dX4_film_55 : decode cX4_film 55 = .ok (.iload 6, 2) := by decide +kernel
theorem dX4_film_57 : decode cX4_film 57 = .ok (.iload_n 2, 1) := by decide +kernel
theorem dX4_film_58 : decode cX4_film 58 = .ok (.invokevirtual 214, 3) := by decide +kernel
theorem dX4_film_61 : decode cX4_film 61 = .ok (.istore 8, 2) := by decide +kernel
theorem dX4_film_63 : decode cX4_film 63 = .ok (.iload 8, 2) := by decide +kernel
theorem dX4_film_65 : decode cX4_film 65 = .ok (.ifCond .eq 6, 3) := by decide +kernel
theorem dX4_film_68 : decode cX4_film 68 = .ok (.iload 8, 2) := by decide +kernel
theorem dX4_film_70 : decode cX4_film 70 = .ok (.ireturn, 1) := by decide +kernel
theorem dX4_film_71 : decode cX4_film 71 = .ok (.aload_n 0, 1) := by decide +kernel
theorem dX4_film_72 : decode cX4_film 72 = .ok (.getfield 29, 3) := by decide +kernel
theorem dX4_film_75 : decode cX4_film 75 = .ok (.aload_n 0, 1) := by decide +kernel
theorem dX4_film_76 : decode cX4_film 76 = .ok (.getfield 10, 3) := by decide +kernel
theorem dX4_film_79 : decode cX4_film 79 = .ok (.invokevirtual 130, 3) := by decide +kernel
theorem dX4_film_82 : decode cX4_film 82 = .ok (.iconst 0, 1) := by decide +kernel
theorem dX4_film_83 : decode cX4_film 83 = .ok (.istore 9, 2) := by decide +kernel
theorem dX4_film_85 : decode cX4_film 85 = .ok (.iload 9, 2) := by decide +kernel
theorem dX4_film_87 : decode cX4_film 87 = .ok (.iload_n 2, 1) := by decide +kernel
theorem dX4_film_88 : decode cX4_film 88 = .ok (.if_icmp .ge 37, 3) := by decide +kernel
theorem dX4_film_91 : decode cX4_film 91 = .ok (.aload_n 0, 1) := by decide +kernel
theorem dX4_film_92 : decode cX4_film 92 = .ok (.getfield 29, 3) := by decide +kernel
theorem dX4_film_95 : decode cX4_film 95 = .ok (.iload_n 3, 1) := by decide +kernel
theorem dX4_film_96 : decode cX4_film 96 = .ok (.invokevirtual 163, 3) := by decide +kernel
theorem dX4_film_99 : decode cX4_film 99 = .ok (.pop, 1) := by decide +kernel
theorem dX4_film_100 : decode cX4_film 100 = .ok (.aload 7, 2) := by decide +kernel
theorem dX4_film_102 : decode cX4_film 102 = .ok (.iload 6, 2) := by decide +kernel
theorem dX4_film_104 : decode cX4_film 104 = .ok (.iload 9, 2) := by decide +kernel
theorem dX4_film_106 : decode cX4_film 106 = .ok (.iadd, 1) := by decide +kernel
theorem dX4_film_107 : decode cX4_film 107 = .ok (.aload_n 0, 1) := by decide +kernel
theorem dX4_film_108 : decode cX4_film 108 = .ok (.getfield 29, 3) := by decide +kernel
theorem dX4_film_111 : decode cX4_film 111 = .ok (.iload_n 1, 1) := by decide +kernel
theorem dX4_film_112 : decode cX4_film 112 = .ok (.invokevirtual 104, 3) := by decide +kernel
theorem dX4_film_115 : decode cX4_film 115 = .ok (.i2l, 1) := by decide +kernel
theorem dX4_film_116 : decode cX4_film 116 = .ok (.invokevirtual 221, 3) := by decide +kernel
theorem dX4_film_119 : decode cX4_film 119 = .ok (.iinc 9 1, 3) := by decide +kernel
theorem dX4_film_122 : decode cX4_film 122 = .ok (.goto (-37), 3) := by decide +kernel
theorem dX4_film_125 : decode cX4_film 125 = .ok (.iload_n 2, 1) := by decide +kernel
theorem dX4_film_126 : decode cX4_film 126 = .ok (.ireturn, 1) := by decide +kernel
set_option maxRecDepth 20000 in
theorem ggX4_sheet_X4_isSheet : GoodIn wsX4_sheet wsX4_isSheet := goodIn_r _ [5, 6, 7, 4, 8] (by decide +kernel) (by decide +kernel)
set_option maxRecDepth 20000 in
theorem gX4_sheet_X4_isSheet : GoodIn wsX4_sheet (va_wsS RX4 208 yX4_isSheet wsX4_isSheet) := goodIn_app (goodIn_of _ (by decide +kernel)) ggX4_sheet_X4_isSheet
set_option maxRecDepth 20000 in
theorem ggX4_sheet_X4_isLane : GoodIn wsX4_sheet wsX4_isLane := goodIn_r _ [11, 6, 7, 4, 8] (by decide +kernel) (by decide +kernel)
set_option maxRecDepth 20000 in
theorem gX4_sheet_X4_isLane : GoodIn wsX4_sheet (va_wsS RX4 211 yX4_isLane wsX4_isLane) := goodIn_app (goodIn_of _ (by decide +kernel)) ggX4_sheet_X4_isLane
set_option maxRecDepth 20000 in
theorem ggX4_sheet_X2_begin : GoodIn wsX4_sheet wsX2_begin := goodIn_r _ [15, 16, 17, 18, 19, 20, 21, 22, 33, 34, 35] (by decide +kernel) (by decide +kernel)
set_option maxRecDepth 20000 in
theorem gX4_sheet_X2_begin_n225 : GoodIn wsX4_sheet (wsX2_begin) := ggX4_sheet_X2_begin
theorem dX4_sheet_0 : decode cX4_sheet 0 = .ok (.iload_n 1, 1) := by decide +kernel
theorem dX4_sheet_1 : decode cX4_sheet 1 = .ok (.invokestatic 208, 3) := by decide +kernel
theorem dX4_sheet_4 : decode cX4_sheet 4 = .ok (.ifCond .eq 16, 3) := by decide +kernel
theorem dX4_sheet_7 : decode cX4_sheet 7 = .ok (.iload_n 2, 1) := by decide +kernel
theorem dX4_sheet_8 : decode cX4_sheet 8 = .ok (.invokestatic 211, 3) := by decide +kernel
theorem dX4_sheet_11 : decode cX4_sheet 11 = .ok (.ifCond .eq 9, 3) := by decide +kernel
theorem dX4_sheet_14 : decode cX4_sheet 14 = .ok (.iload_n 3, 1) := by decide +kernel
theorem dX4_sheet_15 : decode cX4_sheet 15 = .ok (.bipush 24, 2) := by decide +kernel
theorem dX4_sheet_17 : decode cX4_sheet 17 = .ok (.if_icmp .le 5, 3) := by decide +kernel
theorem dX4_sheet_20 : decode cX4_sheet 20 = .ok (.iconst (-1), 1) := by decide +kernel
theorem dX4_sheet_21 : decode cX4_sheet 21 = .ok (.ireturn, 1) := by decide +kernel
theorem dX4_sheet_22 : decode cX4_sheet 22 = .ok (.iload_n 3, 1) := by decide +kernel
theorem dX4_sheet_23 : decode cX4_sheet 23 = .ok (.ifCond .ge 6, 3) := by decide +kernel
theorem dX4_sheet_26 : decode cX4_sheet 26 = .ok (.bipush (-14), 2) := by decide +kernel
theorem dX4_sheet_28 : decode cX4_sheet 28 = .ok (.ireturn, 1) := by decide +kernel
theorem dX4_sheet_29 : decode cX4_sheet 29 = .ok (.aload_n 0, 1) := by decide +kernel
theorem dX4_sheet_30 : decode cX4_sheet 30 = .ok (.getfield 48, 3) := by decide +kernel
theorem dX4_sheet_33 : decode cX4_sheet 33 = .ok (.iload_n 1, 1) := by decide +kernel
theorem dX4_sheet_34 : decode cX4_sheet 34 = .ok (.aaload, 1) := by decide +kernel
theorem dX4_sheet_35 : decode cX4_sheet 35 = .ok (.iload_n 2, 1) := by decide +kernel
theorem dX4_sheet_36 : decode cX4_sheet 36 = .ok (.iload_n 3, 1) := by decide +kernel
theorem dX4_sheet_37 : decode cX4_sheet 37 = .ok (.invokevirtual 225, 3) := by decide +kernel
theorem dX4_sheet_40 : decode cX4_sheet 40 = .ok (.iload_n 3, 1) := by decide +kernel
theorem dX4_sheet_41 : decode cX4_sheet 41 = .ok (.ireturn, 1) := by decide +kernel
set_option maxRecDepth 20000 in
theorem ggX4_drop_X4_isSheet : GoodIn wsX4_drop wsX4_isSheet := goodIn_r _ [5, 6, 7, 4, 8] (by decide +kernel) (by decide +kernel)
set_option maxRecDepth 20000 in
theorem gX4_drop_X4_isSheet : GoodIn wsX4_drop (va_wsS RX4 208 yX4_isSheet wsX4_isSheet) := goodIn_app (goodIn_of _ (by decide +kernel)) ggX4_drop_X4_isSheet
set_option maxRecDepth 20000 in
theorem ggX4_drop_X2_isMissing : GoodIn wsX4_drop wsX2_isMissing := goodIn_r _ [12, 13, 28, 29, 30] (by decide +kernel) (by decide +kernel)
set_option maxRecDepth 20000 in
theorem gX4_drop_X2_isMissing_n228 : GoodIn wsX4_drop (wsX2_isMissing) := ggX4_drop_X2_isMissing
set_option maxRecDepth 20000 in
theorem ggX4_drop_X2_lose : GoodIn wsX4_drop wsX2_lose := goodIn_r _ [16, 13, 17, 28, 29, 30] (by decide +kernel) (by decide +kernel)
set_option maxRecDepth 20000 in
theorem gX4_drop_X2_lose_n233 : GoodIn wsX4_drop (wsX2_lose) := ggX4_drop_X2_lose
theorem dX4_drop_0 : decode cX4_drop 0 = .ok (.iload_n 1, 1) := by decide +kernel
theorem dX4_drop_1 : decode cX4_drop 1 = .ok (.invokestatic 208, 3) := by decide +kernel
theorem dX4_drop_4 : decode cX4_drop 4 = .ok (.ifCond .ne 5, 3) := by decide +kernel
theorem dX4_drop_7 : decode cX4_drop 7 = .ok (.iconst (-1), 1) := by decide +kernel
theorem dX4_drop_8 : decode cX4_drop 8 = .ok (.ireturn, 1) := by decide +kernel
theorem dX4_drop_9 : decode cX4_drop 9 = .ok (.aload_n 0, 1) := by decide +kernel
theorem dX4_drop_10 : decode cX4_drop 10 = .ok (.getfield 48, 3) := by decide +kernel
theorem dX4_drop_13 : decode cX4_drop 13 = .ok (.iload_n 1, 1) := by decide +kernel
theorem dX4_drop_14 : decode cX4_drop 14 = .ok (.aaload, 1) := by decide +kernel
theorem dX4_drop_15 : decode cX4_drop 15 = .ok (.invokevirtual 228, 3) := by decide +kernel
theorem dX4_drop_18 : decode cX4_drop 18 = .ok (.ifCond .eq 6, 3) := by decide +kernel
theorem dX4_drop_21 : decode cX4_drop 21 = .ok (.bipush (-11), 2) := by decide +kernel
theorem dX4_drop_23 : decode cX4_drop 23 = .ok (.ireturn, 1) := by decide +kernel
theorem dX4_drop_24 : decode cX4_drop 24 = .ok (.aload_n 0, 1) := by decide +kernel
theorem dX4_drop_25 : decode cX4_drop 25 = .ok (.getfield 48, 3) := by decide +kernel
theorem dX4_drop_28 : decode cX4_drop 28 = .ok (.iload_n 1, 1) := by decide +kernel
theorem dX4_drop_29 : decode cX4_drop 29 = .ok (.aaload, 1) := by decide +kernel
theorem dX4_drop_30 : decode cX4_drop 30 = .ok (.getfield 232, 3) := by decide +kernel
theorem dX4_drop_33 : decode cX4_drop 33 = .ok (.istore_n 2, 1) := by decide +kernel
theorem dX4_drop_34 : decode cX4_drop 34 = .ok (.aload_n 0, 1) := by decide +kernel
theorem dX4_drop_35 : decode cX4_drop 35 = .ok (.getfield 48, 3) := by decide +kernel
theorem dX4_drop_38 : decode cX4_drop 38 = .ok (.iload_n 1, 1) := by decide +kernel
theorem dX4_drop_39 : decode cX4_drop 39 = .ok (.aaload, 1) := by decide +kernel
theorem dX4_drop_40 : decode cX4_drop 40 = .ok (.invokevirtual 233, 3) := by decide +kernel
theorem dX4_drop_43 : decode cX4_drop 43 = .ok (.iload_n 2, 1) := by decide +kernel
theorem dX4_drop_44 : decode cX4_drop 44 = .ok (.ireturn, 1) := by decide +kernel
set_option maxRecDepth 20000 in
theorem ggX4_item_X4_isSheet : GoodIn wsX4_item wsX4_isSheet := goodIn_r _ [5, 6, 7, 4, 8] (by decide +kernel) (by decide +kernel)
set_option maxRecDepth 20000 in
theorem gX4_item_X4_isSheet : GoodIn wsX4_item (va_wsS RX4 208 yX4_isSheet wsX4_isSheet) := goodIn_app (goodIn_of _ (by decide +kernel)) ggX4_item_X4_isSheet
set_option maxRecDepth 20000 in
theorem ggX4_item_X4_isLane : GoodIn wsX4_item wsX4_isLane := goodIn_r _ [11, 6, 7, 4, 8] (by decide +kernel) (by decide +kernel)
set_option maxRecDepth 20000 in
theorem gX4_item_X4_isLane : GoodIn wsX4_item (va_wsS RX4 211 yX4_isLane wsX4_isLane) := goodIn_app (goodIn_of _ (by decide +kernel)) ggX4_item_X4_isLane
set_option maxRecDepth 20000 in
theorem ggX4_item_X2_refusal : GoodIn wsX4_item wsX2_refusal := goodIn_r _ [15, 16, 17, 18, 19, 13, 20, 21, 22, 23, 24, 25, 40, 41, 42] (by decide +kernel) (by decide +kernel)
set_option maxRecDepth 20000 in
theorem gX4_item_X2_refusal_n214 : GoodIn wsX4_item (wsX2_refusal) := ggX4_item_X2_refusal
set_option maxRecDepth 20000 in
theorem ggX4_item_X2_put : GoodIn wsX4_item wsX2_put := goodIn_r _ [28, 16, 29, 40, 41, 42] (by decide +kernel) (by decide +kernel)
set_option maxRecDepth 20000 in
theorem gX4_item_X2_put_n221 : GoodIn wsX4_item (wsX2_put) := ggX4_item_X2_put
theorem dX4_item_0 : decode cX4_item 0 = .ok (.iload_n 1, 1) := by decide +kernel
theorem dX4_item_1 : decode cX4_item 1 = .ok (.invokestatic 208, 3) := by decide +kernel
theorem dX4_item_4 : decode cX4_item 4 = .ok (.ifCond .eq 10, 3) := by decide +kernel
theorem dX4_item_7 : decode cX4_item 7 = .ok (.iload_n 2, 1) := by decide +kernel
theorem dX4_item_8 : decode cX4_item 8 = .ok (.invokestatic 211, 3) := by decide +kernel
theorem dX4_item_11 : decode cX4_item 11 = .ok (.ifCond .ne 5, 3) := by decide +kernel
theorem dX4_item_14 : decode cX4_item 14 = .ok (.iconst (-1), 1) := by decide +kernel
theorem dX4_item_15 : decode cX4_item 15 = .ok (.ireturn, 1) := by decide +kernel
theorem dX4_item_16 : decode cX4_item 16 = .ok (.aload_n 0, 1) := by decide +kernel
theorem dX4_item_17 : decode cX4_item 17 = .ok (.getfield 48, 3) := by decide +kernel
theorem dX4_item_20 : decode cX4_item 20 = .ok (.iload_n 1, 1) := by decide +kernel
theorem dX4_item_21 : decode cX4_item 21 = .ok (.aaload, 1) := by decide +kernel
theorem dX4_item_22 : decode cX4_item 22 = .ok (.iload_n 2, 1) := by decide +kernel
theorem dX4_item_23 : decode cX4_item 23 = .ok (.iload_n 3, 1) := by decide +kernel
theorem dX4_item_24 : decode cX4_item 24 = .ok (.iconst 1, 1) := by decide +kernel
theorem dX4_item_25 : decode cX4_item 25 = .ok (.invokevirtual 214, 3) := by decide +kernel
theorem dX4_item_28 : decode cX4_item 28 = .ok (.istore 6, 2) := by decide +kernel
theorem dX4_item_30 : decode cX4_item 30 = .ok (.iload 6, 2) := by decide +kernel
theorem dX4_item_32 : decode cX4_item 32 = .ok (.ifCond .eq 6, 3) := by decide +kernel
theorem dX4_item_35 : decode cX4_item 35 = .ok (.iload 6, 2) := by decide +kernel
theorem dX4_item_37 : decode cX4_item 37 = .ok (.ireturn, 1) := by decide +kernel
theorem dX4_item_38 : decode cX4_item 38 = .ok (.aload_n 0, 1) := by decide +kernel
theorem dX4_item_39 : decode cX4_item 39 = .ok (.getfield 48, 3) := by decide +kernel
theorem dX4_item_42 : decode cX4_item 42 = .ok (.iload_n 1, 1) := by decide +kernel
theorem dX4_item_43 : decode cX4_item 43 = .ok (.aaload, 1) := by decide +kernel
theorem dX4_item_44 : decode cX4_item 44 = .ok (.iload_n 3, 1) := by decide +kernel
theorem dX4_item_45 : decode cX4_item 45 = .ok (.lload 4, 2) := by decide +kernel
theorem dX4_item_47 : decode cX4_item 47 = .ok (.invokevirtual 221, 3) := by decide +kernel
theorem dX4_item_50 : decode cX4_item 50 = .ok (.iconst 1, 1) := by decide +kernel
theorem dX4_item_51 : decode cX4_item 51 = .ok (.ireturn, 1) := by decide +kernel
set_option maxRecDepth 20000 in
theorem ggX4_copy_X4_isSheet : GoodIn wsX4_copy wsX4_isSheet := goodIn_r _ [9, 10, 11, 8, 12] (by decide +kernel) (by decide +kernel)
set_option maxRecDepth 20000 in
theorem gX4_copy_X4_isSheet : GoodIn wsX4_copy (va_wsS RX4 208 yX4_isSheet wsX4_isSheet) := goodIn_app (goodIn_of _ (by decide +kernel)) ggX4_copy_X4_isSheet
set_option maxRecDepth 20000 in
theorem ggX4_copy_X2_isMissing : GoodIn wsX4_copy wsX2_isMissing := goodIn_r _ [16, 17, 32, 33, 34] (by decide +kernel) (by decide +kernel)
set_option maxRecDepth 20000 in
theorem gX4_copy_X2_isMissing_n228 : GoodIn wsX4_copy (wsX2_isMissing) := ggX4_copy_X2_isMissing
set_option maxRecDepth 20000 in
theorem ggX4_copy_X2_holds : GoodIn wsX4_copy wsX2_holds := goodIn_r _ [20, 21, 32, 33, 34] (by decide +kernel) (by decide +kernel)
set_option maxRecDepth 20000 in
theorem gX4_copy_X2_holds_n239 : GoodIn wsX4_copy (wsX2_holds) := ggX4_copy_X2_holds
theorem dX4_copy_0 : decode cX4_copy 0 = .ok (.iload_n 1, 1) := by decide +kernel
theorem dX4_copy_1 : decode cX4_copy 1 = .ok (.invokestatic 208, 3) := by decide +kernel
theorem dX4_copy_4 : decode cX4_copy 4 = .ok (.ifCond .eq 10, 3) := by decide +kernel
theorem dX4_copy_7 : decode cX4_copy 7 = .ok (.iload_n 3, 1) := by decide +kernel
theorem dX4_copy_8 : decode cX4_copy 8 = .ok (.invokestatic 208, 3) := by decide +kernel
theorem dX4_copy_11 : decode cX4_copy 11 = .ok (.ifCond .ne 5, 3) := by decide +kernel
theorem dX4_copy_14 : decode cX4_copy 14 = .ok (.iconst (-1), 1) := by decide +kernel
theorem dX4_copy_15 : decode cX4_copy 15 = .ok (.ireturn, 1) := by decide +kernel
theorem dX4_copy_16 : decode cX4_copy 16 = .ok (.aload_n 0, 1) := by decide +kernel
theorem dX4_copy_17 : decode cX4_copy 17 = .ok (.getfield 48, 3) := by decide +kernel
theorem dX4_copy_20 : decode cX4_copy 20 = .ok (.iload_n 1, 1) := by decide +kernel
theorem dX4_copy_21 : decode cX4_copy 21 = .ok (.aaload, 1) := by decide +kernel
theorem dX4_copy_22 : decode cX4_copy 22 = .ok (.astore 6, 2) := by decide +kernel
theorem dX4_copy_24 : decode cX4_copy 24 = .ok (.aload_n 0, 1) := by decide +kernel
theorem dX4_copy_25 : decode cX4_copy 25 = .ok (.getfield 48, 3) := by decide +kernel
theorem dX4_copy_28 : decode cX4_copy 28 = .ok (.iload_n 3, 1) := by decide +kernel
theorem dX4_copy_29 : decode cX4_copy 29 = .ok (.aaload, 1) := by decide +kernel
theorem dX4_copy_30 : decode cX4_copy 30 = .ok (.astore 7, 2) := by decide +kernel
theorem dX4_copy_32 : decode cX4_copy 32 = .ok (.aload 6, 2) := by decide +kernel
theorem dX4_copy_34 : decode cX4_copy 34 = .ok (.invokevirtual 228, 3) := by decide +kernel
theorem dX4_copy_37 : decode cX4_copy 37 = .ok (.ifCond .ne 11, 3) := by decide +kernel
theorem dX4_copy_40 : decode cX4_copy 40 = .ok (.aload 7, 2) := by decide +kernel
theorem dX4_copy_42 : decode cX4_copy 42 = .ok (.invokevirtual 228, 3) := by decide +kernel
theorem dX4_copy_45 : decode cX4_copy 45 = .ok (.ifCond .eq 6, 3) := by decide +kernel
theorem dX4_copy_48 : decode cX4_copy 48 = .ok (.bipush (-11), 2) := by decide +kernel
theorem dX4_copy_50 : decode cX4_copy 50 = .ok (.ireturn, 1) := by decide +kernel
theorem dX4_copy_51 : decode cX4_copy 51 = .ok (.aload 6, 2) := by decide +kernel
theorem dX4_copy_53 : decode cX4_copy 53 = .ok (.getfield 236, 3) := by decide +kernel
theorem dX4_copy_56 : decode cX4_copy 56 = .ok (.aload 7, 2) := by decide +kernel
theorem dX4_copy_58 : decode cX4_copy 58 = .ok (.getfield 236, 3) := by decide +kernel
theorem dX4_copy_61 : decode cX4_copy 61 = .ok (.if_icmp .eq 6, 3) := by decide +kernel
theorem dX4_copy_64 : decode cX4_copy 64 = .ok (.bipush (-12), 2) := by decide +kernel
theorem dX4_copy_66 : decode cX4_copy 66 = .ok (.ireturn, 1) := by decide +kernel
theorem dX4_copy_67 : decode cX4_copy 67 = .ok (.aload 6, 2) := by decide +kernel
theorem dX4_copy_69 : decode cX4_copy 69 = .ok (.iload_n 2, 1) := by decide +kernel
theorem dX4_copy_70 : decode cX4_copy 70 = .ok (.iload 5, 2) := by decide +kernel
theorem dX4_copy_72 : decode cX4_copy 72 = .ok (.invokevirtual 239, 3) := by decide +kernel
theorem dX4_copy_75 : decode cX4_copy 75 = .ok (.ifCond .eq 15, 3) := by decide +kernel
theorem dX4_copy_78 : decode cX4_copy 78 = .ok (.aload 7, 2) := by decide +kernel
theorem dX4_copy_80 : decode cX4_copy 80 = .ok (.iload 4, 2) := by decide +kernel
theorem dX4_copy_82 : decode cX4_copy 82 = .ok (.iload 5, 2) := by decide +kernel
theorem dX4_copy_84 : decode cX4_copy 84 = .ok (.invokevirtual 239, 3) := by decide +kernel
theorem dX4_copy_87 : decode cX4_copy 87 = .ok (.ifCond .ne 6, 3) := by decide +kernel
theorem dX4_copy_90 : decode cX4_copy 90 = .ok (.bipush (-13), 2) := by decide +kernel
theorem dX4_copy_92 : decode cX4_copy 92 = .ok (.ireturn, 1) := by decide +kernel
theorem dX4_copy_93 : decode cX4_copy 93 = .ok (.aload 6, 2) := by decide +kernel
theorem dX4_copy_95 : decode cX4_copy 95 = .ok (.getfield 242, 3) := by decide +kernel
theorem dX4_copy_98 : decode cX4_copy 98 = .ok (.iload_n 2, 1) := by decide +kernel
theorem dX4_copy_99 : decode cX4_copy 99 = .ok (.aload 7, 2) := by decide +kernel
theorem dX4_copy_101 : decode cX4_copy 101 = .ok (.getfield 242, 3) := by decide +kernel
theorem dX4_copy_104 : decode cX4_copy 104 = .ok (.iload 4, 2) := by decide +kernel
theorem dX4_copy_106 : decode cX4_copy 106 = .ok (.iload 5, 2) := by decide +kernel
theorem dX4_copy_108 : decode cX4_copy 108 = .ok (.invokestatic 245, 3) := by decide +kernel
theorem dX4_copy_111 : decode cX4_copy 111 = .ok (.iload 5, 2) := by decide +kernel
theorem dX4_copy_113 : decode cX4_copy 113 = .ok (.ireturn, 1) := by decide +kernel
theorem dX4_within_0 : decode cX4_within 0 = .ok (.iload_n 0, 1) := by decide +kernel
theorem dX4_within_1 : decode cX4_within 1 = .ok (.iload_n 1, 1) := by decide +kernel
theorem dX4_within_2 : decode cX4_within 2 = .ok (.if_icmp .lt 12, 3) := by decide +kernel
theorem dX4_within_5 : decode cX4_within 5 = .ok (.iload_n 0, 1) := by decide +kernel
theorem dX4_within_6 : decode cX4_within 6 = .ok (.iload_n 2, 1) := by decide +kernel
theorem dX4_within_7 : decode cX4_within 7 = .ok (.if_icmp .gt 7, 3) := by decide +kernel
theorem dX4_within_10 : decode cX4_within 10 = .ok (.iconst 1, 1) := by decide +kernel
theorem dX4_within_11 : decode cX4_within 11 = .ok (.goto 4, 3) := by decide +kernel
theorem dX4_within_14 : decode cX4_within 14 = .ok (.iconst 0, 1) := by decide +kernel
theorem dX4_within_15 : decode cX4_within 15 = .ok (.ireturn, 1) := by decide +kernel
set_option maxRecDepth 20000 in
theorem ggX4_isPerson_X4_within : GoodIn wsX4_isPerson wsX4_within := goodIn_r _ [5] (by decide +kernel) (by decide +kernel)
set_option maxRecDepth 20000 in
theorem gX4_isPerson_X4_within : GoodIn wsX4_isPerson (va_wsS RX4 53 yX4_within wsX4_within) := goodIn_app (goodIn_of _ (by decide +kernel)) ggX4_isPerson_X4_within
theorem dX4_isPerson_0 : decode cX4_isPerson 0 = .ok (.iload_n 1, 1) := by decide +kernel
theorem dX4_isPerson_1 : decode cX4_isPerson 1 = .ok (.iconst 0, 1) := by decide +kernel
theorem dX4_isPerson_2 : decode cX4_isPerson 2 = .ok (.aload_n 0, 1) := by decide +kernel
theorem dX4_isPerson_3 : decode cX4_isPerson 3 = .ok (.getfield 10, 3) := by decide +kernel
theorem dX4_isPerson_6 : decode cX4_isPerson 6 = .ok (.getfield 57, 3) := by decide +kernel
theorem dX4_isPerson_9 : decode cX4_isPerson 9 = .ok (.iconst 1, 1) := by decide +kernel
theorem dX4_isPerson_10 : decode cX4_isPerson 10 = .ok (.isub, 1) := by decide +kernel
theorem dX4_isPerson_11 : decode cX4_isPerson 11 = .ok (.invokestatic 53, 3) := by decide +kernel
theorem dX4_isPerson_14 : decode cX4_isPerson 14 = .ok (.ireturn, 1) := by decide +kernel
set_option maxRecDepth 20000 in
theorem ggX4_isThing_X4_within : GoodIn wsX4_isThing wsX4_within := goodIn_r _ [4] (by decide +kernel) (by decide +kernel)
set_option maxRecDepth 20000 in
theorem gX4_isThing_X4_within : GoodIn wsX4_isThing (va_wsS RX4 53 yX4_within wsX4_within) := goodIn_app (goodIn_of _ (by decide +kernel)) ggX4_isThing_X4_within
theorem dX4_isThing_0 : decode cX4_isThing 0 = .ok (.iload_n 0, 1) := by decide +kernel
theorem dX4_isThing_1 : decode cX4_isThing 1 = .ok (.iconst 0, 1) := by decide +kernel
theorem dX4_isThing_2 : decode cX4_isThing 2 = .ok (.bipush 7, 2) := by decide +kernel
theorem dX4_isThing_4 : decode cX4_isThing 4 = .ok (.invokestatic 53, 3) := by decide +kernel
theorem dX4_isThing_7 : decode cX4_isThing 7 = .ok (.ireturn, 1) := by decide +kernel
set_option maxRecDepth 20000 in
theorem ggX4_isHeat_X4_within : GoodIn wsX4_isHeat wsX4_within := goodIn_r _ [4] (by decide +kernel) (by decide +kernel)
set_option maxRecDepth 20000 in
theorem gX4_isHeat_X4_within : GoodIn wsX4_isHeat (va_wsS RX4 53 yX4_within wsX4_within) := goodIn_app (goodIn_of _ (by decide +kernel)) ggX4_isHeat_X4_within
theorem dX4_isHeat_0 : decode cX4_isHeat 0 = .ok (.iload_n 0, 1) := by decide +kernel
theorem dX4_isHeat_1 : decode cX4_isHeat 1 = .ok (.iconst 0, 1) := by decide +kernel
theorem dX4_isHeat_2 : decode cX4_isHeat 2 = .ok (.bipush 9, 2) := by decide +kernel
theorem dX4_isHeat_4 : decode cX4_isHeat 4 = .ok (.invokestatic 53, 3) := by decide +kernel
theorem dX4_isHeat_7 : decode cX4_isHeat 7 = .ok (.ireturn, 1) := by decide +kernel
set_option maxRecDepth 20000 in
theorem ggX4_isSheet_X4_within : GoodIn wsX4_isSheet wsX4_within := goodIn_r _ [4] (by decide +kernel) (by decide +kernel)
set_option maxRecDepth 20000 in
theorem gX4_isSheet_X4_within : GoodIn wsX4_isSheet (va_wsS RX4 53 yX4_within wsX4_within) := goodIn_app (goodIn_of _ (by decide +kernel)) ggX4_isSheet_X4_within
theorem dX4_isSheet_0 : decode cX4_isSheet 0 = .ok (.iload_n 0, 1) := by decide +kernel
theorem dX4_isSheet_1 : decode cX4_isSheet 1 = .ok (.iconst 0, 1) := by decide +kernel
theorem dX4_isSheet_2 : decode cX4_isSheet 2 = .ok (.iconst 3, 1) := by decide +kernel
theorem dX4_isSheet_3 : decode cX4_isSheet 3 = .ok (.invokestatic 53, 3) := by decide +kernel
theorem dX4_isSheet_6 : decode cX4_isSheet 6 = .ok (.ireturn, 1) := by decide +kernel
set_option maxRecDepth 20000 in
theorem ggX4_isLane_X4_within : GoodIn wsX4_isLane wsX4_within := goodIn_r _ [4] (by decide +kernel) (by decide +kernel)
set_option maxRecDepth 20000 in
theorem gX4_isLane_X4_within : GoodIn wsX4_isLane (va_wsS RX4 53 yX4_within wsX4_within) := goodIn_app (goodIn_of _ (by decide +kernel)) ggX4_isLane_X4_within
theorem dX4_isLane_0 : decode cX4_isLane 0 = .ok (.iload_n 0, 1) := by decide +kernel
theorem dX4_isLane_1 : decode cX4_isLane 1 = .ok (.iconst 0, 1) := by decide +kernel
theorem dX4_isLane_2 : decode cX4_isLane 2 = .ok (.iconst 3, 1) := by decide +kernel
theorem dX4_isLane_3 : decode cX4_isLane 3 = .ok (.invokestatic 53, 3) := by decide +kernel
theorem dX4_isLane_6 : decode cX4_isLane 6 = .ok (.ireturn, 1) := by decide +kernel
set_option maxRecDepth 20000 in
theorem ggX4_leastRenewed_X0_knowersOf : GoodIn wsX4_leastRenewed wsX0_knowersOf := goodIn_r _ [5, 6, 7, 101, 102, 103, 104, 105, 106, 107, 108, 109, 110] (by decide +kernel) (by decide +kernel)
set_option maxRecDepth 20000 in
theorem gX4_leastRenewed_X0_knowersOf_n104 : GoodIn wsX4_leastRenewed (wsX0_knowersOf) := ggX4_leastRenewed_X0_knowersOf
set_option maxRecDepth 20000 in
theorem ggX4_leastRenewed_J6_bitCount_0f7a4 : GoodIn wsX4_leastRenewed wsJ6_bitCount_0f7a4 := goodIn_r _ [11, 12, 13, 14] (by decide +kernel) (by decide +kernel)
set_option maxRecDepth 20000 in
theorem gX4_leastRenewed_J6_bitCount_0f7a4 : GoodIn wsX4_leastRenewed (va_wsS RX4 189 yJ6_bitCount_0f7a4 wsJ6_bitCount_0f7a4) := goodIn_app (goodIn_of _ (by decide +kernel)) ggX4_leastRenewed_J6_bitCount_0f7a4
set_option maxRecDepth 20000 in
theorem ggX4_leastRenewed_X4_knowersIfRenewed : GoodIn wsX4_leastRenewed wsX4_knowersIfRenewed := goodIn_r _ [19, 20, 1, 21, 3, 22, 23, 24, 25, 26, 27, 28, 29, 7, 30, 6, 31, 32, 33, 34, 35, 36, 37, 38, 39, 40, 18, 41, 42, 43, 44, 45, 46, 47, 48, 49, 50, 51, 52, 53, 54, 55, 56, 57, 58, 59, 60, 61, 62, 63, 64, 65, 66, 67, 68, 69, 70, 71, 72, 73, 74, 75, 76, 77, 78, 79, 80, 81, 82, 83, 84, 85, 86, 87, 88, 89, 90, 2, 4, 5, 8, 9, 10, 11, 12, 13, 14, 91, 92, 93, 94, 95, 96, 97, 98, 99, 100, 101, 102, 103, 104, 105, 106, 107, 108, 109, 110] (by decide +kernel) (by decide +kernel)
set_option maxRecDepth 20000 in
theorem gX4_leastRenewed_X4_knowersIfRenewed : GoodIn wsX4_leastRenewed (wsV RX4 251 RX4 yX4_knowersIfRenewed wsX4_knowersIfRenewed) := goodIn_app (goodIn_of _ (by decide +kernel)) ggX4_leastRenewed_X4_knowersIfRenewed
theorem dX4_leastRenewed_0 : decode cX4_leastRenewed 0 = .ok (.aload_n 0, 1) := by decide +kernel
theorem dX4_leastRenewed_1 : decode cX4_leastRenewed 1 = .ok (.getfield 10, 3) := by decide +kernel
theorem dX4_leastRenewed_4 : decode cX4_leastRenewed 4 = .ok (.iload_n 1, 1) := by decide +kernel
theorem dX4_leastRenewed_5 : decode cX4_leastRenewed 5 = .ok (.invokevirtual 104, 3) := by decide +kernel
theorem dX4_leastRenewed_8 : decode cX4_leastRenewed 8 = .ok (.istore 5, 2) := by decide +kernel
theorem dX4_leastRenewed_10 : decode cX4_leastRenewed 10 = .ok (.iconst (-1), 1) := by decide +kernel
theorem dX4_leastRenewed_11 : decode cX4_leastRenewed 11 = .ok (.istore 6, 2) := by decide +kernel
theorem dX4_leastRenewed_13 : decode cX4_leastRenewed 13 = .ok (.bipush 7, 2) := by decide +kernel
theorem dX4_leastRenewed_15 : decode cX4_leastRenewed 15 = .ok (.istore 7, 2) := by decide +kernel
theorem dX4_leastRenewed_17 : decode cX4_leastRenewed 17 = .ok (.iconst 0, 1) := by decide +kernel
theorem dX4_leastRenewed_18 : decode cX4_leastRenewed 18 = .ok (.istore 8, 2) := by decide +kernel
theorem dX4_leastRenewed_20 : decode cX4_leastRenewed 20 = .ok (.iload 8, 2) := by decide +kernel
theorem dX4_leastRenewed_22 : decode cX4_leastRenewed 22 = .ok (.bipush 64, 2) := by decide +kernel
theorem dX4_leastRenewed_24 : decode cX4_leastRenewed 24 = .ok (.if_icmp .ge 66, 3) := by decide +kernel
theorem dX4_leastRenewed_27 : decode cX4_leastRenewed 27 = .ok (.iload 8, 2) := by decide +kernel
theorem dX4_leastRenewed_29 : decode cX4_leastRenewed 29 = .ok (.iload 5, 2) := by decide +kernel
theorem dX4_leastRenewed_31 : decode cX4_leastRenewed 31 = .ok (.iconst (-1), 1) := by decide +kernel
theorem dX4_leastRenewed_32 : decode cX4_leastRenewed 32 = .ok (.ixor, 1) := by decide +kernel
theorem dX4_leastRenewed_33 : decode cX4_leastRenewed 33 = .ok (.iand, 1) := by decide +kernel
theorem dX4_leastRenewed_34 : decode cX4_leastRenewed 34 = .ok (.ifCond .ne 17, 3) := by decide +kernel
theorem dX4_leastRenewed_37 : decode cX4_leastRenewed 37 = .ok (.iload 8, 2) := by decide +kernel
theorem dX4_leastRenewed_39 : decode cX4_leastRenewed 39 = .ok (.invokestatic 189, 3) := by decide +kernel
theorem dX4_leastRenewed_42 : decode cX4_leastRenewed 42 = .ok (.iload 7, 2) := by decide +kernel
theorem dX4_leastRenewed_44 : decode cX4_leastRenewed 44 = .ok (.if_icmp .ge 7, 3) := by decide +kernel
theorem dX4_leastRenewed_47 : decode cX4_leastRenewed 47 = .ok (.iconst 1, 1) := by decide +kernel
theorem dX4_leastRenewed_48 : decode cX4_leastRenewed 48 = .ok (.goto 4, 3) := by decide +kernel
theorem dX4_leastRenewed_51 : decode cX4_leastRenewed 51 = .ok (.iconst 0, 1) := by decide +kernel
theorem dX4_leastRenewed_52 : decode cX4_leastRenewed 52 = .ok (.istore 9, 2) := by decide +kernel
theorem dX4_leastRenewed_54 : decode cX4_leastRenewed 54 = .ok (.iload 9, 2) := by decide +kernel
theorem dX4_leastRenewed_56 : decode cX4_leastRenewed 56 = .ok (.ifCond .eq 28, 3) := by decide +kernel
theorem dX4_leastRenewed_59 : decode cX4_leastRenewed 59 = .ok (.aload_n 0, 1) := by decide +kernel
theorem dX4_leastRenewed_60 : decode cX4_leastRenewed 60 = .ok (.iload_n 1, 1) := by decide +kernel
theorem dX4_leastRenewed_61 : decode cX4_leastRenewed 61 = .ok (.iload 8, 2) := by decide +kernel
theorem dX4_leastRenewed_63 : decode cX4_leastRenewed 63 = .ok (.iload_n 2, 1) := by decide +kernel
theorem dX4_leastRenewed_64 : decode cX4_leastRenewed 64 = .ok (.iload_n 3, 1) := by decide +kernel
theorem dX4_leastRenewed_65 : decode cX4_leastRenewed 65 = .ok (.invokevirtual 251, 3) := by decide +kernel
theorem dX4_leastRenewed_68 : decode cX4_leastRenewed 68 = .ok (.iload 4, 2) := by decide +kernel
theorem dX4_leastRenewed_70 : decode cX4_leastRenewed 70 = .ok (.if_icmp .gt 14, 3) := by decide +kernel
theorem dX4_leastRenewed_73 : decode cX4_leastRenewed 73 = .ok (.iload 8, 2) := by decide +kernel
theorem dX4_leastRenewed_75 : decode cX4_leastRenewed 75 = .ok (.istore 6, 2) := by decide +kernel
theorem dX4_leastRenewed_77 : decode cX4_leastRenewed 77 = .ok (.iload 8, 2) := by decide +kernel
theorem dX4_leastRenewed_79 : decode cX4_leastRenewed 79 = .ok (.invokestatic 189, 3) := by decide +kernel
theorem dX4_leastRenewed_82 : decode cX4_leastRenewed 82 = .ok (.istore 7, 2) := by decide +kernel
theorem dX4_leastRenewed_84 : decode cX4_leastRenewed 84 = .ok (.iinc 8 1, 3) := by decide +kernel
theorem dX4_leastRenewed_87 : decode cX4_leastRenewed 87 = .ok (.goto (-67), 3) := by decide +kernel
theorem dX4_leastRenewed_90 : decode cX4_leastRenewed 90 = .ok (.iload 6, 2) := by decide +kernel
theorem dX4_leastRenewed_92 : decode cX4_leastRenewed 92 = .ok (.ireturn, 1) := by decide +kernel
set_option maxRecDepth 20000 in
theorem ggX4_knowersIfRenewed_X0_become : GoodIn wsX4_knowersIfRenewed wsX0_become := goodIn_r _ [6, 7, 8, 9, 10, 11, 12, 13, 14, 15, 16, 17, 18, 19, 97, 98, 99, 100, 101, 102, 103, 104, 105, 106] (by decide +kernel) (by decide +kernel)
set_option maxRecDepth 20000 in
theorem gX4_knowersIfRenewed_X0_become_n130 : GoodIn wsX4_knowersIfRenewed (wsX0_become) := ggX4_knowersIfRenewed_X0_become
set_option maxRecDepth 20000 in
theorem ggX4_knowersIfRenewed_X0_learn : GoodIn wsX4_knowersIfRenewed wsX0_learn := goodIn_r _ [22, 13, 14, 23, 24, 25, 26, 27, 97, 98, 99, 100, 101, 102, 103, 104, 105, 106] (by decide +kernel) (by decide +kernel)
set_option maxRecDepth 20000 in
theorem gX4_knowersIfRenewed_X0_learn_n156 : GoodIn wsX4_knowersIfRenewed (wsX0_learn) := ggX4_knowersIfRenewed_X0_learn
set_option maxRecDepth 20000 in
theorem ggX4_knowersIfRenewed_X0_liveDays : GoodIn wsX4_knowersIfRenewed wsX0_liveDays := goodIn_r _ [30, 31, 32, 33, 4, 34, 15, 14, 7, 18, 35, 17, 36, 26, 37, 38, 39, 40, 41, 42, 43, 44, 45, 46, 47, 48, 13, 24, 49, 50, 51, 52, 53, 54, 55, 12, 56, 57, 58, 59, 60, 61, 62, 63, 64, 65, 66, 67, 68, 69, 70, 71, 72, 73, 74, 75, 76, 16, 97, 98, 99, 100, 101, 102, 103, 104, 105, 106] (by decide +kernel) (by decide +kernel)
set_option maxRecDepth 20000 in
theorem gX4_knowersIfRenewed_X0_liveDays_n172 : GoodIn wsX4_knowersIfRenewed (wsX0_liveDays) := ggX4_knowersIfRenewed_X0_liveDays
set_option maxRecDepth 20000 in
theorem ggX4_knowersIfRenewed_X0_knowersOf : GoodIn wsX4_knowersIfRenewed wsX0_knowersOf := goodIn_r _ [79, 15, 13, 97, 98, 99, 100, 101, 102, 103, 104, 105, 106] (by decide +kernel) (by decide +kernel)
set_option maxRecDepth 20000 in
theorem gX4_knowersIfRenewed_X0_knowersOf_n104 : GoodIn wsX4_knowersIfRenewed (wsX0_knowersOf) := ggX4_knowersIfRenewed_X0_knowersOf
set_option maxRecDepth 20000 in
theorem ggX4_knowersIfRenewed_J6_bitCount_0f7a4 : GoodIn wsX4_knowersIfRenewed wsJ6_bitCount_0f7a4 := goodIn_r _ [83, 84, 85, 86] (by decide +kernel) (by decide +kernel)
set_option maxRecDepth 20000 in
theorem gX4_knowersIfRenewed_J6_bitCount_0f7a4 : GoodIn wsX4_knowersIfRenewed (va_wsS RX4 189 yJ6_bitCount_0f7a4 wsJ6_bitCount_0f7a4) := goodIn_app (goodIn_of _ (by decide +kernel)) ggX4_knowersIfRenewed_J6_bitCount_0f7a4
theorem dX4_knowersIfRenewed_0 : decode cX4_knowersIfRenewed 0 = .ok (.aload_n 0, 1) := by decide +kernel
theorem dX4_knowersIfRenewed_1 : decode cX4_knowersIfRenewed 1 = .ok (.getfield 29, 3) := by decide +kernel
theorem dX4_knowersIfRenewed_4 : decode cX4_knowersIfRenewed 4 = .ok (.aload_n 0, 1) := by decide +kernel
theorem dX4_knowersIfRenewed_5 : decode cX4_knowersIfRenewed 5 = .ok (.getfield 10, 3) := by decide +kernel
theorem dX4_knowersIfRenewed_8 : decode cX4_knowersIfRenewed 8 = .ok (.invokevirtual 130, 3) := by decide +kernel
theorem dX4_knowersIfRenewed_11 : decode cX4_knowersIfRenewed 11 = .ok (.iconst 0, 1) := by decide +kernel
theorem dX4_knowersIfRenewed_12 : decode cX4_knowersIfRenewed 12 = .ok (.istore 5, 2) := by decide +kernel
theorem dX4_knowersIfRenewed_14 : decode cX4_knowersIfRenewed 14 = .ok (.iload 5, 2) := by decide +kernel
theorem dX4_knowersIfRenewed_16 : decode cX4_knowersIfRenewed 16 = .ok (.aload_n 0, 1) := by decide +kernel
theorem dX4_knowersIfRenewed_17 : decode cX4_knowersIfRenewed 17 = .ok (.getfield 29, 3) := by decide +kernel
theorem dX4_knowersIfRenewed_20 : decode cX4_knowersIfRenewed 20 = .ok (.getfield 57, 3) := by decide +kernel
theorem dX4_knowersIfRenewed_23 : decode cX4_knowersIfRenewed 23 = .ok (.if_icmp .ge 35, 3) := by decide +kernel
theorem dX4_knowersIfRenewed_26 : decode cX4_knowersIfRenewed 26 = .ok (.iload_n 2, 1) := by decide +kernel
theorem dX4_knowersIfRenewed_27 : decode cX4_knowersIfRenewed 27 = .ok (.iload 5, 2) := by decide +kernel
theorem dX4_knowersIfRenewed_29 : decode cX4_knowersIfRenewed 29 = .ok (.ishr, 1) := by decide +kernel
theorem dX4_knowersIfRenewed_30 : decode cX4_knowersIfRenewed 30 = .ok (.iconst 1, 1) := by decide +kernel
theorem dX4_knowersIfRenewed_31 : decode cX4_knowersIfRenewed 31 = .ok (.iand, 1) := by decide +kernel
theorem dX4_knowersIfRenewed_32 : decode cX4_knowersIfRenewed 32 = .ok (.ifCond .eq 20, 3) := by decide +kernel
theorem dX4_knowersIfRenewed_35 : decode cX4_knowersIfRenewed 35 = .ok (.aload_n 0, 1) := by decide +kernel
theorem dX4_knowersIfRenewed_36 : decode cX4_knowersIfRenewed 36 = .ok (.getfield 29, 3) := by decide +kernel
theorem dX4_knowersIfRenewed_39 : decode cX4_knowersIfRenewed 39 = .ok (.iload 5, 2) := by decide +kernel
theorem dX4_knowersIfRenewed_41 : decode cX4_knowersIfRenewed 41 = .ok (.iload_n 1, 1) := by decide +kernel
theorem dX4_knowersIfRenewed_42 : decode cX4_knowersIfRenewed 42 = .ok (.aload_n 0, 1) := by decide +kernel
theorem dX4_knowersIfRenewed_43 : decode cX4_knowersIfRenewed 43 = .ok (.getfield 29, 3) := by decide +kernel
theorem dX4_knowersIfRenewed_46 : decode cX4_knowersIfRenewed 46 = .ok (.getfield 111, 3) := by decide +kernel
theorem dX4_knowersIfRenewed_49 : decode cX4_knowersIfRenewed 49 = .ok (.invokevirtual 156, 3) := by decide +kernel
theorem dX4_knowersIfRenewed_52 : decode cX4_knowersIfRenewed 52 = .ok (.iinc 5 1, 3) := by decide +kernel
theorem dX4_knowersIfRenewed_55 : decode cX4_knowersIfRenewed 55 = .ok (.goto (-41), 3) := by decide +kernel
theorem dX4_knowersIfRenewed_58 : decode cX4_knowersIfRenewed 58 = .ok (.aload_n 0, 1) := by decide +kernel
theorem dX4_knowersIfRenewed_59 : decode cX4_knowersIfRenewed 59 = .ok (.getfield 29, 3) := by decide +kernel
theorem dX4_knowersIfRenewed_62 : decode cX4_knowersIfRenewed 62 = .ok (.iload_n 3, 1) := by decide +kernel
theorem dX4_knowersIfRenewed_63 : decode cX4_knowersIfRenewed 63 = .ok (.iload 4, 2) := by decide +kernel
theorem dX4_knowersIfRenewed_65 : decode cX4_knowersIfRenewed 65 = .ok (.invokevirtual 172, 3) := by decide +kernel
theorem dX4_knowersIfRenewed_68 : decode cX4_knowersIfRenewed 68 = .ok (.pop, 1) := by decide +kernel
theorem dX4_knowersIfRenewed_69 : decode cX4_knowersIfRenewed 69 = .ok (.aload_n 0, 1) := by decide +kernel
theorem dX4_knowersIfRenewed_70 : decode cX4_knowersIfRenewed 70 = .ok (.getfield 29, 3) := by decide +kernel
theorem dX4_knowersIfRenewed_73 : decode cX4_knowersIfRenewed 73 = .ok (.iload_n 1, 1) := by decide +kernel
theorem dX4_knowersIfRenewed_74 : decode cX4_knowersIfRenewed 74 = .ok (.invokevirtual 104, 3) := by decide +kernel
theorem dX4_knowersIfRenewed_77 : decode cX4_knowersIfRenewed 77 = .ok (.invokestatic 189, 3) := by decide +kernel
theorem dX4_knowersIfRenewed_80 : decode cX4_knowersIfRenewed 80 = .ok (.ireturn, 1) := by decide +kernel
set_option maxRecDepth 20000 in
theorem ggX4_layBestOrder_X0_become : GoodIn wsX4_layBestOrder wsX0_become := goodIn_r _ [12, 13, 14, 5, 6, 7, 15, 16, 17, 18, 19, 20, 21, 22, 92, 93, 94, 95, 96, 97, 98, 99, 100, 101] (by decide +kernel) (by decide +kernel)
set_option maxRecDepth 20000 in
theorem gX4_layBestOrder_X0_become_n130 : GoodIn wsX4_layBestOrder (wsX0_become) := ggX4_layBestOrder_X0_become
set_option maxRecDepth 20000 in
theorem ggX4_layBestOrder_X0_liveUntilLeaks : GoodIn wsX4_layBestOrder wsX0_liveUntilLeaks := goodIn_r _ [25, 26, 27, 28, 10, 29, 18, 17, 13, 21, 30, 20, 31, 32, 33, 34, 35, 36, 37, 38, 39, 40, 41, 42, 43, 44, 16, 45, 46, 47, 48, 49, 50, 51, 52, 15, 53, 54, 55, 56, 57, 58, 59, 60, 61, 62, 63, 64, 65, 66, 67, 68, 69, 70, 71, 72, 73, 19, 92, 93, 94, 95, 96, 97, 98, 99, 100, 101] (by decide +kernel) (by decide +kernel)
set_option maxRecDepth 20000 in
theorem gX4_layBestOrder_X0_liveUntilLeaks_n179 : GoodIn wsX4_layBestOrder (wsX0_liveUntilLeaks) := ggX4_layBestOrder_X0_liveUntilLeaks
set_option maxRecDepth 20000 in
theorem ggX4_layBestOrder_X4_turnToNextOrder : GoodIn wsX4_layBestOrder wsX4_turnToNextOrder := goodIn_r _ [77, 1, 78, 79, 80, 32, 81, 82, 83, 84, 85, 86, 87, 88, 89, 90, 91] (by decide +kernel) (by decide +kernel)
set_option maxRecDepth 20000 in
theorem gX4_layBestOrder_X4_turnToNextOrder : GoodIn wsX4_layBestOrder (wsV RX4 257 RX4 yX4_turnToNextOrder wsX4_turnToNextOrder) := goodIn_app (goodIn_of _ (by decide +kernel)) ggX4_layBestOrder_X4_turnToNextOrder
theorem dX4_layBestOrder_0 : decode cX4_layBestOrder 0 = .ok (.iconst 0, 1) := by decide +kernel
theorem dX4_layBestOrder_1 : decode cX4_layBestOrder 1 = .ok (.istore_n 3, 1) := by decide +kernel
theorem dX4_layBestOrder_2 : decode cX4_layBestOrder 2 = .ok (.iload_n 3, 1) := by decide +kernel
theorem dX4_layBestOrder_3 : decode cX4_layBestOrder 3 = .ok (.bipush 6, 2) := by decide +kernel
theorem dX4_layBestOrder_5 : decode cX4_layBestOrder 5 = .ok (.if_icmp .ge 16, 3) := by decide +kernel
theorem dX4_layBestOrder_8 : decode cX4_layBestOrder 8 = .ok (.aload_n 0, 1) := by decide +kernel
theorem dX4_layBestOrder_9 : decode cX4_layBestOrder 9 = .ok (.getfield 32, 3) := by decide +kernel
theorem dX4_layBestOrder_12 : decode cX4_layBestOrder 12 = .ok (.iload_n 3, 1) := by decide +kernel
theorem dX4_layBestOrder_13 : decode cX4_layBestOrder 13 = .ok (.iload_n 3, 1) := by decide +kernel
theorem dX4_layBestOrder_14 : decode cX4_layBestOrder 14 = .ok (.iastore, 1) := by decide +kernel
theorem dX4_layBestOrder_15 : decode cX4_layBestOrder 15 = .ok (.iinc 3 1, 3) := by decide +kernel
theorem dX4_layBestOrder_18 : decode cX4_layBestOrder 18 = .ok (.goto (-16), 3) := by decide +kernel
theorem dX4_layBestOrder_21 : decode cX4_layBestOrder 21 = .ok (.bipush 49, 2) := by decide +kernel
theorem dX4_layBestOrder_23 : decode cX4_layBestOrder 23 = .ok (.istore_n 3, 1) := by decide +kernel
theorem dX4_layBestOrder_24 : decode cX4_layBestOrder 24 = .ok (.iconst 0, 1) := by decide +kernel
theorem dX4_layBestOrder_25 : decode cX4_layBestOrder 25 = .ok (.istore 4, 2) := by decide +kernel
theorem dX4_layBestOrder_27 : decode cX4_layBestOrder 27 = .ok (.iload 4, 2) := by decide +kernel
theorem dX4_layBestOrder_29 : decode cX4_layBestOrder 29 = .ok (.bipush 120, 2) := by decide +kernel
theorem dX4_layBestOrder_31 : decode cX4_layBestOrder 31 = .ok (.if_icmp .ge 95, 3) := by decide +kernel
theorem dX4_layBestOrder_34 : decode cX4_layBestOrder 34 = .ok (.iload_n 3, 1) := by decide +kernel
theorem dX4_layBestOrder_35 : decode cX4_layBestOrder 35 = .ok (.ifCond .le 91, 3) := by decide +kernel
theorem dX4_layBestOrder_38 : decode cX4_layBestOrder 38 = .ok (.aload_n 0, 1) := by decide +kernel
theorem dX4_layBestOrder_39 : decode cX4_layBestOrder 39 = .ok (.getfield 29, 3) := by decide +kernel
theorem dX4_layBestOrder_42 : decode cX4_layBestOrder 42 = .ok (.aload_n 0, 1) := by decide +kernel
theorem dX4_layBestOrder_43 : decode cX4_layBestOrder 43 = .ok (.getfield 10, 3) := by decide +kernel
theorem dX4_layBestOrder_46 : decode cX4_layBestOrder 46 = .ok (.invokevirtual 130, 3) := by decide +kernel
theorem dX4_layBestOrder_49 : decode cX4_layBestOrder 49 = .ok (.aload_n 0, 1) := by decide +kernel
theorem dX4_layBestOrder_50 : decode cX4_layBestOrder 50 = .ok (.getfield 32, 3) := by decide +kernel
theorem dX4_layBestOrder_53 : decode cX4_layBestOrder 53 = .ok (.iconst 0, 1) := by decide +kernel
theorem dX4_layBestOrder_54 : decode cX4_layBestOrder 54 = .ok (.aload_n 0, 1) := by decide +kernel
theorem dX4_layBestOrder_55 : decode cX4_layBestOrder 55 = .ok (.getfield 29, 3) := by decide +kernel
theorem dX4_layBestOrder_58 : decode cX4_layBestOrder 58 = .ok (.getfield 254, 3) := by decide +kernel
theorem dX4_layBestOrder_61 : decode cX4_layBestOrder 61 = .ok (.iconst 0, 1) := by decide +kernel
theorem dX4_layBestOrder_62 : decode cX4_layBestOrder 62 = .ok (.bipush 6, 2) := by decide +kernel
theorem dX4_layBestOrder_64 : decode cX4_layBestOrder 64 = .ok (.invokestatic 245, 3) := by decide +kernel
theorem dX4_layBestOrder_67 : decode cX4_layBestOrder 67 = .ok (.aload_n 0, 1) := by decide +kernel
theorem dX4_layBestOrder_68 : decode cX4_layBestOrder 68 = .ok (.getfield 29, 3) := by decide +kernel
theorem dX4_layBestOrder_71 : decode cX4_layBestOrder 71 = .ok (.iload_n 1, 1) := by decide +kernel
theorem dX4_layBestOrder_72 : decode cX4_layBestOrder 72 = .ok (.iload_n 2, 1) := by decide +kernel
theorem dX4_layBestOrder_73 : decode cX4_layBestOrder 73 = .ok (.iload_n 3, 1) := by decide +kernel
theorem dX4_layBestOrder_74 : decode cX4_layBestOrder 74 = .ok (.invokevirtual 179, 3) := by decide +kernel
theorem dX4_layBestOrder_77 : decode cX4_layBestOrder 77 = .ok (.istore 5, 2) := by decide +kernel
theorem dX4_layBestOrder_79 : decode cX4_layBestOrder 79 = .ok (.iload 5, 2) := by decide +kernel
theorem dX4_layBestOrder_81 : decode cX4_layBestOrder 81 = .ok (.iload_n 3, 1) := by decide +kernel
theorem dX4_layBestOrder_82 : decode cX4_layBestOrder 82 = .ok (.if_icmp .ge 21, 3) := by decide +kernel
theorem dX4_layBestOrder_85 : decode cX4_layBestOrder 85 = .ok (.iload 5, 2) := by decide +kernel
theorem dX4_layBestOrder_87 : decode cX4_layBestOrder 87 = .ok (.istore_n 3, 1) := by decide +kernel
theorem dX4_layBestOrder_88 : decode cX4_layBestOrder 88 = .ok (.aload_n 0, 1) := by decide +kernel
theorem dX4_layBestOrder_89 : decode cX4_layBestOrder 89 = .ok (.getfield 32, 3) := by decide +kernel
theorem dX4_layBestOrder_92 : decode cX4_layBestOrder 92 = .ok (.iconst 0, 1) := by decide +kernel
theorem dX4_layBestOrder_93 : decode cX4_layBestOrder 93 = .ok (.aload_n 0, 1) := by decide +kernel
theorem dX4_layBestOrder_94 : decode cX4_layBestOrder 94 = .ok (.getfield 36, 3) := by decide +kernel
theorem dX4_layBestOrder_97 : decode cX4_layBestOrder 97 = .ok (.iconst 0, 1) := by decide +kernel
theorem dX4_layBestOrder_98 : decode cX4_layBestOrder 98 = .ok (.bipush 6, 2) := by decide +kernel
theorem dX4_layBestOrder_100 : decode cX4_layBestOrder 100 = .ok (.invokestatic 245, 3) := by decide +kernel
theorem dX4_layBestOrder_103 : decode cX4_layBestOrder 103 = .ok (.aload_n 0, 1) := by decide +kernel
theorem dX4_layBestOrder_104 : decode cX4_layBestOrder 104 = .ok (.aload_n 0, 1) := by decide +kernel
theorem dX4_layBestOrder_105 : decode cX4_layBestOrder 105 = .ok (.getfield 10, 3) := by decide +kernel
theorem dX4_layBestOrder_108 : decode cX4_layBestOrder 108 = .ok (.getfield 57, 3) := by decide +kernel
theorem dX4_layBestOrder_111 : decode cX4_layBestOrder 111 = .ok (.invokevirtual 257, 3) := by decide +kernel
theorem dX4_layBestOrder_114 : decode cX4_layBestOrder 114 = .ok (.ifCond .ne 6, 3) := by decide +kernel
theorem dX4_layBestOrder_117 : decode cX4_layBestOrder 117 = .ok (.goto 9, 3) := by decide +kernel
theorem dX4_layBestOrder_120 : decode cX4_layBestOrder 120 = .ok (.iinc 4 1, 3) := by decide +kernel
theorem dX4_layBestOrder_123 : decode cX4_layBestOrder 123 = .ok (.goto (-96), 3) := by decide +kernel
theorem dX4_layBestOrder_126 : decode cX4_layBestOrder 126 = .ok (.iload_n 3, 1) := by decide +kernel
theorem dX4_layBestOrder_127 : decode cX4_layBestOrder 127 = .ok (.ireturn, 1) := by decide +kernel
set_option maxRecDepth 20000 in
theorem ggX4_turnToNextOrder_X4_swapInOrder : GoodIn wsX4_turnToNextOrder wsX4_swapInOrder := goodIn_r _ [6, 1, 7, 8, 9, 10, 11, 12, 13, 14, 15, 16] (by decide +kernel) (by decide +kernel)
set_option maxRecDepth 20000 in
theorem gX4_turnToNextOrder_X4_swapInOrder : GoodIn wsX4_turnToNextOrder (wsV RX4 260 RX4 yX4_swapInOrder wsX4_swapInOrder) := goodIn_app (goodIn_of _ (by decide +kernel)) ggX4_turnToNextOrder_X4_swapInOrder
theorem dX4_turnToNextOrder_0 : decode cX4_turnToNextOrder 0 = .ok (.iload_n 1, 1) := by decide +kernel
theorem dX4_turnToNextOrder_1 : decode cX4_turnToNextOrder 1 = .ok (.iconst 2, 1) := by decide +kernel
theorem dX4_turnToNextOrder_2 : decode cX4_turnToNextOrder 2 = .ok (.isub, 1) := by decide +kernel
theorem dX4_turnToNextOrder_3 : decode cX4_turnToNextOrder 3 = .ok (.istore_n 2, 1) := by decide +kernel
theorem dX4_turnToNextOrder_4 : decode cX4_turnToNextOrder 4 = .ok (.iload_n 2, 1) := by decide +kernel
theorem dX4_turnToNextOrder_5 : decode cX4_turnToNextOrder 5 = .ok (.iconst 1, 1) := by decide +kernel
theorem dX4_turnToNextOrder_6 : decode cX4_turnToNextOrder 6 = .ok (.if_icmp .lt 26, 3) := by decide +kernel
theorem dX4_turnToNextOrder_9 : decode cX4_turnToNextOrder 9 = .ok (.aload_n 0, 1) := by decide +kernel
theorem dX4_turnToNextOrder_10 : decode cX4_turnToNextOrder 10 = .ok (.getfield 32, 3) := by decide +kernel
theorem dX4_turnToNextOrder_13 : decode cX4_turnToNextOrder 13 = .ok (.iload_n 2, 1) := by decide +kernel
theorem dX4_turnToNextOrder_14 : decode cX4_turnToNextOrder 14 = .ok (.iaload, 1) := by decide +kernel
theorem dX4_turnToNextOrder_15 : decode cX4_turnToNextOrder 15 = .ok (.aload_n 0, 1) := by decide +kernel
theorem dX4_turnToNextOrder_16 : decode cX4_turnToNextOrder 16 = .ok (.getfield 32, 3) := by decide +kernel
theorem dX4_turnToNextOrder_19 : decode cX4_turnToNextOrder 19 = .ok (.iload_n 2, 1) := by decide +kernel
theorem dX4_turnToNextOrder_20 : decode cX4_turnToNextOrder 20 = .ok (.iconst 1, 1) := by decide +kernel
theorem dX4_turnToNextOrder_21 : decode cX4_turnToNextOrder 21 = .ok (.iadd, 1) := by decide +kernel
theorem dX4_turnToNextOrder_22 : decode cX4_turnToNextOrder 22 = .ok (.iaload, 1) := by decide +kernel
theorem dX4_turnToNextOrder_23 : decode cX4_turnToNextOrder 23 = .ok (.if_icmp .le 9, 3) := by decide +kernel
theorem dX4_turnToNextOrder_26 : decode cX4_turnToNextOrder 26 = .ok (.iinc 2 (-1), 3) := by decide +kernel
theorem dX4_turnToNextOrder_29 : decode cX4_turnToNextOrder 29 = .ok (.goto (-25), 3) := by decide +kernel
theorem dX4_turnToNextOrder_32 : decode cX4_turnToNextOrder 32 = .ok (.iload_n 2, 1) := by decide +kernel
theorem dX4_turnToNextOrder_33 : decode cX4_turnToNextOrder 33 = .ok (.iconst 1, 1) := by decide +kernel
theorem dX4_turnToNextOrder_34 : decode cX4_turnToNextOrder 34 = .ok (.if_icmp .ge 5, 3) := by decide +kernel
theorem dX4_turnToNextOrder_37 : decode cX4_turnToNextOrder 37 = .ok (.iconst 0, 1) := by decide +kernel
theorem dX4_turnToNextOrder_38 : decode cX4_turnToNextOrder 38 = .ok (.ireturn, 1) := by decide +kernel
theorem dX4_turnToNextOrder_39 : decode cX4_turnToNextOrder 39 = .ok (.iload_n 1, 1) := by decide +kernel
theorem dX4_turnToNextOrder_40 : decode cX4_turnToNextOrder 40 = .ok (.iconst 1, 1) := by decide +kernel
theorem dX4_turnToNextOrder_41 : decode cX4_turnToNextOrder 41 = .ok (.isub, 1) := by decide +kernel
theorem dX4_turnToNextOrder_42 : decode cX4_turnToNextOrder 42 = .ok (.istore_n 3, 1) := by decide +kernel
theorem dX4_turnToNextOrder_43 : decode cX4_turnToNextOrder 43 = .ok (.iload_n 3, 1) := by decide +kernel
theorem dX4_turnToNextOrder_44 : decode cX4_turnToNextOrder 44 = .ok (.iload_n 2, 1) := by decide +kernel
theorem dX4_turnToNextOrder_45 : decode cX4_turnToNextOrder 45 = .ok (.if_icmp .le 24, 3) := by decide +kernel
theorem dX4_turnToNextOrder_48 : decode cX4_turnToNextOrder 48 = .ok (.aload_n 0, 1) := by decide +kernel
theorem dX4_turnToNextOrder_49 : decode cX4_turnToNextOrder 49 = .ok (.getfield 32, 3) := by decide +kernel
theorem dX4_turnToNextOrder_52 : decode cX4_turnToNextOrder 52 = .ok (.iload_n 3, 1) := by decide +kernel
theorem dX4_turnToNextOrder_53 : decode cX4_turnToNextOrder 53 = .ok (.iaload, 1) := by decide +kernel
theorem dX4_turnToNextOrder_54 : decode cX4_turnToNextOrder 54 = .ok (.aload_n 0, 1) := by decide +kernel
theorem dX4_turnToNextOrder_55 : decode cX4_turnToNextOrder 55 = .ok (.getfield 32, 3) := by decide +kernel
theorem dX4_turnToNextOrder_58 : decode cX4_turnToNextOrder 58 = .ok (.iload_n 2, 1) := by decide +kernel
theorem dX4_turnToNextOrder_59 : decode cX4_turnToNextOrder 59 = .ok (.iaload, 1) := by decide +kernel
theorem dX4_turnToNextOrder_60 : decode cX4_turnToNextOrder 60 = .ok (.if_icmp .ge 9, 3) := by decide +kernel
theorem dX4_turnToNextOrder_63 : decode cX4_turnToNextOrder 63 = .ok (.iinc 3 (-1), 3) := by decide +kernel
theorem dX4_turnToNextOrder_66 : decode cX4_turnToNextOrder 66 = .ok (.goto (-23), 3) := by decide +kernel
theorem dX4_turnToNextOrder_69 : decode cX4_turnToNextOrder 69 = .ok (.aload_n 0, 1) := by decide +kernel
theorem dX4_turnToNextOrder_70 : decode cX4_turnToNextOrder 70 = .ok (.iload_n 2, 1) := by decide +kernel
theorem dX4_turnToNextOrder_71 : decode cX4_turnToNextOrder 71 = .ok (.iload_n 3, 1) := by decide +kernel
theorem dX4_turnToNextOrder_72 : decode cX4_turnToNextOrder 72 = .ok (.invokevirtual 260, 3) := by decide +kernel
theorem dX4_turnToNextOrder_75 : decode cX4_turnToNextOrder 75 = .ok (.iload_n 2, 1) := by decide +kernel
theorem dX4_turnToNextOrder_76 : decode cX4_turnToNextOrder 76 = .ok (.iconst 1, 1) := by decide +kernel
theorem dX4_turnToNextOrder_77 : decode cX4_turnToNextOrder 77 = .ok (.iadd, 1) := by decide +kernel
theorem dX4_turnToNextOrder_78 : decode cX4_turnToNextOrder 78 = .ok (.istore 4, 2) := by decide +kernel
theorem dX4_turnToNextOrder_80 : decode cX4_turnToNextOrder 80 = .ok (.iload_n 1, 1) := by decide +kernel
theorem dX4_turnToNextOrder_81 : decode cX4_turnToNextOrder 81 = .ok (.iconst 1, 1) := by decide +kernel
theorem dX4_turnToNextOrder_82 : decode cX4_turnToNextOrder 82 = .ok (.isub, 1) := by decide +kernel
theorem dX4_turnToNextOrder_83 : decode cX4_turnToNextOrder 83 = .ok (.istore 5, 2) := by decide +kernel
theorem dX4_turnToNextOrder_85 : decode cX4_turnToNextOrder 85 = .ok (.iload 4, 2) := by decide +kernel
theorem dX4_turnToNextOrder_87 : decode cX4_turnToNextOrder 87 = .ok (.iload 5, 2) := by decide +kernel
theorem dX4_turnToNextOrder_89 : decode cX4_turnToNextOrder 89 = .ok (.if_icmp .ge 20, 3) := by decide +kernel
theorem dX4_turnToNextOrder_92 : decode cX4_turnToNextOrder 92 = .ok (.aload_n 0, 1) := by decide +kernel
theorem dX4_turnToNextOrder_93 : decode cX4_turnToNextOrder 93 = .ok (.iload 4, 2) := by decide +kernel
theorem dX4_turnToNextOrder_95 : decode cX4_turnToNextOrder 95 = .ok (.iload 5, 2) := by decide +kernel
theorem dX4_turnToNextOrder_97 : decode cX4_turnToNextOrder 97 = .ok (.invokevirtual 260, 3) := by decide +kernel
theorem dX4_turnToNextOrder_100 : decode cX4_turnToNextOrder 100 = .ok (.iinc 4 1, 3) := by decide +kernel
theorem dX4_turnToNextOrder_103 : decode cX4_turnToNextOrder 103 = .ok (.iinc 5 (-1), 3) := by decide +kernel
theorem dX4_turnToNextOrder_106 : decode cX4_turnToNextOrder 106 = .ok (.goto (-21), 3) := by decide +kernel
theorem dX4_turnToNextOrder_109 : decode cX4_turnToNextOrder 109 = .ok (.iconst 1, 1) := by decide +kernel
theorem dX4_turnToNextOrder_110 : decode cX4_turnToNextOrder 110 = .ok (.ireturn, 1) := by decide +kernel
theorem dX4_swapInOrder_0 : decode cX4_swapInOrder 0 = .ok (.aload_n 0, 1) := by decide +kernel
theorem dX4_swapInOrder_1 : decode cX4_swapInOrder 1 = .ok (.getfield 32, 3) := by decide +kernel
theorem dX4_swapInOrder_4 : decode cX4_swapInOrder 4 = .ok (.iload_n 1, 1) := by decide +kernel
theorem dX4_swapInOrder_5 : decode cX4_swapInOrder 5 = .ok (.iaload, 1) := by decide +kernel
theorem dX4_swapInOrder_6 : decode cX4_swapInOrder 6 = .ok (.istore_n 3, 1) := by decide +kernel
theorem dX4_swapInOrder_7 : decode cX4_swapInOrder 7 = .ok (.aload_n 0, 1) := by decide +kernel
theorem dX4_swapInOrder_8 : decode cX4_swapInOrder 8 = .ok (.getfield 32, 3) := by decide +kernel
theorem dX4_swapInOrder_11 : decode cX4_swapInOrder 11 = .ok (.iload_n 1, 1) := by decide +kernel
theorem dX4_swapInOrder_12 : decode cX4_swapInOrder 12 = .ok (.aload_n 0, 1) := by decide +kernel
theorem dX4_swapInOrder_13 : decode cX4_swapInOrder 13 = .ok (.getfield 32, 3) := by decide +kernel
theorem dX4_swapInOrder_16 : decode cX4_swapInOrder 16 = .ok (.iload_n 2, 1) := by decide +kernel
theorem dX4_swapInOrder_17 : decode cX4_swapInOrder 17 = .ok (.iaload, 1) := by decide +kernel
theorem dX4_swapInOrder_18 : decode cX4_swapInOrder 18 = .ok (.iastore, 1) := by decide +kernel
theorem dX4_swapInOrder_19 : decode cX4_swapInOrder 19 = .ok (.aload_n 0, 1) := by decide +kernel
theorem dX4_swapInOrder_20 : decode cX4_swapInOrder 20 = .ok (.getfield 32, 3) := by decide +kernel
theorem dX4_swapInOrder_23 : decode cX4_swapInOrder 23 = .ok (.iload_n 2, 1) := by decide +kernel
theorem dX4_swapInOrder_24 : decode cX4_swapInOrder 24 = .ok (.iload_n 3, 1) := by decide +kernel
theorem dX4_swapInOrder_25 : decode cX4_swapInOrder 25 = .ok (.iastore, 1) := by decide +kernel
theorem dX4_swapInOrder_26 : decode cX4_swapInOrder 26 = .ok (.return_, 1) := by decide +kernel
set_option maxRecDepth 20000 in
theorem ggX4_wouldBeAsTold_X0_become : GoodIn wsX4_wouldBeAsTold wsX0_become := goodIn_r _ [6, 7, 8, 9, 10, 11, 12, 13, 14, 15, 16, 17, 18, 19, 83, 84, 85, 86, 87, 88, 89, 90, 91, 92] (by decide +kernel) (by decide +kernel)
set_option maxRecDepth 20000 in
theorem gX4_wouldBeAsTold_X0_become_n130 : GoodIn wsX4_wouldBeAsTold (wsX0_become) := ggX4_wouldBeAsTold_X0_become
set_option maxRecDepth 20000 in
theorem ggX4_wouldBeAsTold_X0_live : GoodIn wsX4_wouldBeAsTold wsX0_live := goodIn_r _ [22, 15, 14, 7, 18, 23, 17, 24, 25, 26, 27, 28, 29, 30, 31, 32, 33, 34, 35, 36, 4, 37, 13, 38, 39, 40, 41, 42, 43, 44, 45, 12, 46, 47, 48, 49, 50, 51, 52, 53, 54, 55, 56, 57, 58, 59, 60, 61, 62, 63, 64, 65, 66, 16, 83, 84, 85, 86, 87, 88, 89, 90, 91, 92] (by decide +kernel) (by decide +kernel)
set_option maxRecDepth 20000 in
theorem gX4_wouldBeAsTold_X0_live_n163 : GoodIn wsX4_wouldBeAsTold (wsX0_live) := ggX4_wouldBeAsTold_X0_live
set_option maxRecDepth 20000 in
theorem ggX4_wouldBeAsTold_X0_knowersOf : GoodIn wsX4_wouldBeAsTold wsX0_knowersOf := goodIn_r _ [69, 15, 13, 83, 84, 85, 86, 87, 88, 89, 90, 91, 92] (by decide +kernel) (by decide +kernel)
set_option maxRecDepth 20000 in
theorem gX4_wouldBeAsTold_X0_knowersOf_n104 : GoodIn wsX4_wouldBeAsTold (wsX0_knowersOf) := ggX4_wouldBeAsTold_X0_knowersOf
theorem dX4_wouldBeAsTold_0 : decode cX4_wouldBeAsTold 0 = .ok (.aload_n 0, 1) := by decide +kernel
theorem dX4_wouldBeAsTold_1 : decode cX4_wouldBeAsTold 1 = .ok (.getfield 29, 3) := by decide +kernel
theorem dX4_wouldBeAsTold_4 : decode cX4_wouldBeAsTold 4 = .ok (.aload_n 0, 1) := by decide +kernel
theorem dX4_wouldBeAsTold_5 : decode cX4_wouldBeAsTold 5 = .ok (.getfield 10, 3) := by decide +kernel
theorem dX4_wouldBeAsTold_8 : decode cX4_wouldBeAsTold 8 = .ok (.invokevirtual 130, 3) := by decide +kernel
theorem dX4_wouldBeAsTold_11 : decode cX4_wouldBeAsTold 11 = .ok (.iconst 0, 1) := by decide +kernel
theorem dX4_wouldBeAsTold_12 : decode cX4_wouldBeAsTold 12 = .ok (.istore 6, 2) := by decide +kernel
theorem dX4_wouldBeAsTold_14 : decode cX4_wouldBeAsTold 14 = .ok (.iload 6, 2) := by decide +kernel
theorem dX4_wouldBeAsTold_16 : decode cX4_wouldBeAsTold 16 = .ok (.iload 4, 2) := by decide +kernel
theorem dX4_wouldBeAsTold_18 : decode cX4_wouldBeAsTold 18 = .ok (.if_icmp .ge 43, 3) := by decide +kernel
theorem dX4_wouldBeAsTold_21 : decode cX4_wouldBeAsTold 21 = .ok (.aload_n 0, 1) := by decide +kernel
theorem dX4_wouldBeAsTold_22 : decode cX4_wouldBeAsTold 22 = .ok (.getfield 29, 3) := by decide +kernel
theorem dX4_wouldBeAsTold_25 : decode cX4_wouldBeAsTold 25 = .ok (.iload 5, 2) := by decide +kernel
theorem dX4_wouldBeAsTold_27 : decode cX4_wouldBeAsTold 27 = .ok (.invokevirtual 163, 3) := by decide +kernel
theorem dX4_wouldBeAsTold_30 : decode cX4_wouldBeAsTold 30 = .ok (.pop, 1) := by decide +kernel
theorem dX4_wouldBeAsTold_31 : decode cX4_wouldBeAsTold 31 = .ok (.aload_n 2, 1) := by decide +kernel
theorem dX4_wouldBeAsTold_32 : decode cX4_wouldBeAsTold 32 = .ok (.getfield 242, 3) := by decide +kernel
theorem dX4_wouldBeAsTold_35 : decode cX4_wouldBeAsTold 35 = .ok (.iload_n 3, 1) := by decide +kernel
theorem dX4_wouldBeAsTold_36 : decode cX4_wouldBeAsTold 36 = .ok (.iload 6, 2) := by decide +kernel
theorem dX4_wouldBeAsTold_38 : decode cX4_wouldBeAsTold 38 = .ok (.iadd, 1) := by decide +kernel
theorem dX4_wouldBeAsTold_39 : decode cX4_wouldBeAsTold 39 = .ok (.laload, 1) := by decide +kernel
theorem dX4_wouldBeAsTold_40 : decode cX4_wouldBeAsTold 40 = .ok (.aload_n 0, 1) := by decide +kernel
theorem dX4_wouldBeAsTold_41 : decode cX4_wouldBeAsTold 41 = .ok (.getfield 29, 3) := by decide +kernel
theorem dX4_wouldBeAsTold_44 : decode cX4_wouldBeAsTold 44 = .ok (.iload_n 1, 1) := by decide +kernel
theorem dX4_wouldBeAsTold_45 : decode cX4_wouldBeAsTold 45 = .ok (.invokevirtual 104, 3) := by decide +kernel
theorem dX4_wouldBeAsTold_48 : decode cX4_wouldBeAsTold 48 = .ok (.i2l, 1) := by decide +kernel
theorem dX4_wouldBeAsTold_49 : decode cX4_wouldBeAsTold 49 = .ok (.lcmp, 1) := by decide +kernel
theorem dX4_wouldBeAsTold_50 : decode cX4_wouldBeAsTold 50 = .ok (.ifCond .eq 5, 3) := by decide +kernel
theorem dX4_wouldBeAsTold_53 : decode cX4_wouldBeAsTold 53 = .ok (.iconst 0, 1) := by decide +kernel
theorem dX4_wouldBeAsTold_54 : decode cX4_wouldBeAsTold 54 = .ok (.ireturn, 1) := by decide +kernel
theorem dX4_wouldBeAsTold_55 : decode cX4_wouldBeAsTold 55 = .ok (.iinc 6 1, 3) := by decide +kernel
theorem dX4_wouldBeAsTold_58 : decode cX4_wouldBeAsTold 58 = .ok (.goto (-44), 3) := by decide +kernel
theorem dX4_wouldBeAsTold_61 : decode cX4_wouldBeAsTold 61 = .ok (.iconst 1, 1) := by decide +kernel
theorem dX4_wouldBeAsTold_62 : decode cX4_wouldBeAsTold 62 = .ok (.ireturn, 1) := by decide +kernel
theorem dX4_byteOf_0 : decode cX4_byteOf 0 = .ok (.lconst 1, 1) := by decide +kernel
theorem dX4_byteOf_1 : decode cX4_byteOf 1 = .ok (.bipush 8, 2) := by decide +kernel
theorem dX4_byteOf_3 : decode cX4_byteOf 3 = .ok (.iload_n 0, 1) := by decide +kernel
theorem dX4_byteOf_4 : decode cX4_byteOf 4 = .ok (.imul, 1) := by decide +kernel
theorem dX4_byteOf_5 : decode cX4_byteOf 5 = .ok (.lshl, 1) := by decide +kernel
theorem dX4_byteOf_6 : decode cX4_byteOf 6 = .ok (.lreturn, 1) := by decide +kernel
theorem dX4_sealedIn_0 : decode cX4_sealedIn 0 = .ok (.lload_n 0, 1) := by decide +kernel
theorem dX4_sealedIn_1 : decode cX4_sealedIn 1 = .ok (.ldc2_w 263, 3) := by decide +kernel
theorem dX4_sealedIn_4 : decode cX4_sealedIn 4 = .ok (.ladd, 1) := by decide +kernel
theorem dX4_sealedIn_5 : decode cX4_sealedIn 5 = .ok (.ldc2_w 265, 3) := by decide +kernel
theorem dX4_sealedIn_8 : decode cX4_sealedIn 8 = .ok (.land, 1) := by decide +kernel
theorem dX4_sealedIn_9 : decode cX4_sealedIn 9 = .ok (.bipush 7, 2) := by decide +kernel
theorem dX4_sealedIn_11 : decode cX4_sealedIn 11 = .ok (.lushr, 1) := by decide +kernel
theorem dX4_sealedIn_12 : decode cX4_sealedIn 12 = .ok (.lreturn, 1) := by decide +kernel
theorem dX4_weaker_0 : decode cX4_weaker 0 = .ok (.lload_n 0, 1) := by decide +kernel
theorem dX4_weaker_1 : decode cX4_weaker 1 = .ok (.ldc2_w 265, 3) := by decide +kernel
theorem dX4_weaker_4 : decode cX4_weaker 4 = .ok (.lor, 1) := by decide +kernel
theorem dX4_weaker_5 : decode cX4_weaker 5 = .ok (.ldc2_w 267, 3) := by decide +kernel
theorem dX4_weaker_8 : decode cX4_weaker 8 = .ok (.iload_n 2, 1) := by decide +kernel
theorem dX4_weaker_9 : decode cX4_weaker 9 = .ok (.i2l, 1) := by decide +kernel
theorem dX4_weaker_10 : decode cX4_weaker 10 = .ok (.lmul, 1) := by decide +kernel
theorem dX4_weaker_11 : decode cX4_weaker 11 = .ok (.lsub, 1) := by decide +kernel
theorem dX4_weaker_12 : decode cX4_weaker 12 = .ok (.lstore_n 3, 1) := by decide +kernel
theorem dX4_weaker_13 : decode cX4_weaker 13 = .ok (.lload_n 3, 1) := by decide +kernel
theorem dX4_weaker_14 : decode cX4_weaker 14 = .ok (.ldc2_w 265, 3) := by decide +kernel
theorem dX4_weaker_17 : decode cX4_weaker 17 = .ok (.land, 1) := by decide +kernel
theorem dX4_weaker_18 : decode cX4_weaker 18 = .ok (.bipush 7, 2) := by decide +kernel
theorem dX4_weaker_20 : decode cX4_weaker 20 = .ok (.lushr, 1) := by decide +kernel
theorem dX4_weaker_21 : decode cX4_weaker 21 = .ok (.lstore 5, 2) := by decide +kernel
theorem dX4_weaker_23 : decode cX4_weaker 23 = .ok (.lload_n 3, 1) := by decide +kernel
theorem dX4_weaker_24 : decode cX4_weaker 24 = .ok (.lload 5, 2) := by decide +kernel
theorem dX4_weaker_26 : decode cX4_weaker 26 = .ok (.ldc2_w 269, 3) := by decide +kernel
theorem dX4_weaker_29 : decode cX4_weaker 29 = .ok (.lmul, 1) := by decide +kernel
theorem dX4_weaker_30 : decode cX4_weaker 30 = .ok (.land, 1) := by decide +kernel
theorem dX4_weaker_31 : decode cX4_weaker 31 = .ok (.lreturn, 1) := by decide +kernel
theorem dX4_asSet_0 : decode cX4_asSet 0 = .ok (.iconst 0, 1) := by decide +kernel
theorem dX4_asSet_1 : decode cX4_asSet 1 = .ok (.istore_n 2, 1) := by decide +kernel
theorem dX4_asSet_2 : decode cX4_asSet 2 = .ok (.iconst 0, 1) := by decide +kernel
theorem dX4_asSet_3 : decode cX4_asSet 3 = .ok (.istore_n 3, 1) := by decide +kernel
theorem dX4_asSet_4 : decode cX4_asSet 4 = .ok (.iload_n 3, 1) := by decide +kernel
theorem dX4_asSet_5 : decode cX4_asSet 5 = .ok (.bipush 8, 2) := by decide +kernel
theorem dX4_asSet_7 : decode cX4_asSet 7 = .ok (.if_icmp .ge 23, 3) := by decide +kernel
theorem dX4_asSet_10 : decode cX4_asSet 10 = .ok (.iload_n 2, 1) := by decide +kernel
theorem dX4_asSet_11 : decode cX4_asSet 11 = .ok (.lload_n 0, 1) := by decide +kernel
theorem dX4_asSet_12 : decode cX4_asSet 12 = .ok (.bipush 8, 2) := by decide +kernel
theorem dX4_asSet_14 : decode cX4_asSet 14 = .ok (.iload_n 3, 1) := by decide +kernel
theorem dX4_asSet_15 : decode cX4_asSet 15 = .ok (.imul, 1) := by decide +kernel
theorem dX4_asSet_16 : decode cX4_asSet 16 = .ok (.lushr, 1) := by decide +kernel
theorem dX4_asSet_17 : decode cX4_asSet 17 = .ok (.lconst 1, 1) := by decide +kernel
theorem dX4_asSet_18 : decode cX4_asSet 18 = .ok (.land, 1) := by decide +kernel
theorem dX4_asSet_19 : decode cX4_asSet 19 = .ok (.l2i, 1) := by decide +kernel
theorem dX4_asSet_20 : decode cX4_asSet 20 = .ok (.iload_n 3, 1) := by decide +kernel
theorem dX4_asSet_21 : decode cX4_asSet 21 = .ok (.ishl, 1) := by decide +kernel
theorem dX4_asSet_22 : decode cX4_asSet 22 = .ok (.ior, 1) := by decide +kernel
theorem dX4_asSet_23 : decode cX4_asSet 23 = .ok (.istore_n 2, 1) := by decide +kernel
theorem dX4_asSet_24 : decode cX4_asSet 24 = .ok (.iinc 3 1, 3) := by decide +kernel
theorem dX4_asSet_27 : decode cX4_asSet 27 = .ok (.goto (-23), 3) := by decide +kernel
theorem dX4_asSet_30 : decode cX4_asSet 30 = .ok (.iload_n 2, 1) := by decide +kernel
theorem dX4_asSet_31 : decode cX4_asSet 31 = .ok (.ireturn, 1) := by decide +kernel
theorem dX4_weakening_0 : decode cX4_weakening 0 = .ok (.iload_n 0, 1) := by decide +kernel
theorem dX4_weakening_1 : decode cX4_weakening 1 = .ok (.tableswitch 63 0 3 #[31, 35, 63, 41], 31) := by decide +kernel
theorem dX4_weakening_32 : decode cX4_weakening 32 = .ok (.iload_n 1, 1) := by decide +kernel
theorem dX4_weakening_33 : decode cX4_weakening 33 = .ok (.iconst 2, 1) := by decide +kernel
theorem dX4_weakening_34 : decode cX4_weakening 34 = .ok (.idiv, 1) := by decide +kernel
theorem dX4_weakening_35 : decode cX4_weakening 35 = .ok (.ireturn, 1) := by decide +kernel
theorem dX4_weakening_36 : decode cX4_weakening 36 = .ok (.iload_n 1, 1) := by decide +kernel
theorem dX4_weakening_37 : decode cX4_weakening 37 = .ok (.iconst 2, 1) := by decide +kernel
theorem dX4_weakening_38 : decode cX4_weakening 38 = .ok (.idiv, 1) := by decide +kernel
theorem dX4_weakening_39 : decode cX4_weakening 39 = .ok (.iconst 1, 1) := by decide +kernel
theorem dX4_weakening_40 : decode cX4_weakening 40 = .ok (.iadd, 1) := by decide +kernel
theorem dX4_weakening_41 : decode cX4_weakening 41 = .ok (.ireturn, 1) := by decide +kernel
theorem dX4_weakening_42 : decode cX4_weakening 42 = .ok (.iload_n 2, 1) := by decide +kernel
theorem dX4_weakening_43 : decode cX4_weakening 43 = .ok (.iconst 3, 1) := by decide +kernel
theorem dX4_weakening_44 : decode cX4_weakening 44 = .ok (.irem, 1) := by decide +kernel
theorem dX4_weakening_45 : decode cX4_weakening 45 = .ok (.ifCond .ne 13, 3) := by decide +kernel
theorem dX4_weakening_48 : decode cX4_weakening 48 = .ok (.iconst 2, 1) := by decide +kernel
theorem dX4_weakening_49 : decode cX4_weakening 49 = .ok (.iload_n 1, 1) := by decide +kernel
theorem dX4_weakening_50 : decode cX4_weakening 50 = .ok (.iconst 2, 1) := by decide +kernel
theorem dX4_weakening_51 : decode cX4_weakening 51 = .ok (.idiv, 1) := by decide +kernel
theorem dX4_weakening_52 : decode cX4_weakening 52 = .ok (.iconst 1, 1) := by decide +kernel
theorem dX4_weakening_53 : decode cX4_weakening 53 = .ok (.iadd, 1) := by decide +kernel
theorem dX4_weakening_54 : decode cX4_weakening 54 = .ok (.imul, 1) := by decide +kernel
theorem dX4_weakening_55 : decode cX4_weakening 55 = .ok (.goto 8, 3) := by decide +kernel
theorem dX4_weakening_58 : decode cX4_weakening 58 = .ok (.iload_n 1, 1) := by decide +kernel
theorem dX4_weakening_59 : decode cX4_weakening 59 = .ok (.iconst 2, 1) := by decide +kernel
theorem dX4_weakening_60 : decode cX4_weakening 60 = .ok (.idiv, 1) := by decide +kernel
theorem dX4_weakening_61 : decode cX4_weakening 61 = .ok (.iconst 1, 1) := by decide +kernel
theorem dX4_weakening_62 : decode cX4_weakening 62 = .ok (.iadd, 1) := by decide +kernel
theorem dX4_weakening_63 : decode cX4_weakening 63 = .ok (.ireturn, 1) := by decide +kernel
theorem dX4_weakening_64 : decode cX4_weakening 64 = .ok (.iconst 0, 1) := by decide +kernel
theorem dX4_weakening_65 : decode cX4_weakening 65 = .ok (.ireturn, 1) := by decide +kernel
theorem dX4_tells_0 : decode cX4_tells 0 = .ok (.iload_n 0, 1) := by decide +kernel
theorem dX4_tells_1 : decode cX4_tells 1 = .ok (.iconst 2, 1) := by decide +kernel
theorem dX4_tells_2 : decode cX4_tells 2 = .ok (.if_icmp .eq 12, 3) := by decide +kernel
theorem dX4_tells_5 : decode cX4_tells 5 = .ok (.iload_n 0, 1) := by decide +kernel
