theorem dX4_tells_6 : decode cX4_tells 6 = .ok (.iconst 4, 1) := by decide +kernel
theorem dX4_tells_7 : decode cX4_tells 7 = .ok (.if_icmp .eq 7, 3) := by decide +kernel
theorem dX4_tells_10 : decode cX4_tells 10 = .ok (.iconst 1, 1) := by decide +kernel
theorem dX4_tells_11 : decode cX4_tells 11 = .ok (.goto 4, 3) := by decide +kernel
theorem dX4_tells_14 : decode cX4_tells 14 = .ok (.iconst 0, 1) := by decide +kernel
theorem dX4_tells_15 : decode cX4_tells 15 = .ok (.ireturn, 1) := by decide +kernel
theorem dX4_hears_0 : decode cX4_hears 0 = .ok (.iload_n 0, 1) := by decide +kernel
theorem dX4_hears_1 : decode cX4_hears 1 = .ok (.iconst 4, 1) := by decide +kernel
theorem dX4_hears_2 : decode cX4_hears 2 = .ok (.if_icmp .eq 7, 3) := by decide +kernel
theorem dX4_hears_5 : decode cX4_hears 5 = .ok (.iconst 1, 1) := by decide +kernel
theorem dX4_hears_6 : decode cX4_hears 6 = .ok (.goto 4, 3) := by decide +kernel
theorem dX4_hears_9 : decode cX4_hears 9 = .ok (.iconst 0, 1) := by decide +kernel
theorem dX4_hears_10 : decode cX4_hears 10 = .ok (.ireturn, 1) := by decide +kernel
theorem dX5_in_0 : decode cX5_in 0 = .ok (.lload_n 0, 1) := by decide +kernel
theorem dX5_in_1 : decode cX5_in 1 = .ok (.lload_n 2, 1) := by decide +kernel
theorem dX5_in_2 : decode cX5_in 2 = .ok (.lcmp, 1) := by decide +kernel
theorem dX5_in_3 : decode cX5_in 3 = .ok (.ifCond .lt 14, 3) := by decide +kernel
theorem dX5_in_6 : decode cX5_in 6 = .ok (.lload_n 0, 1) := by decide +kernel
theorem dX5_in_7 : decode cX5_in 7 = .ok (.lload 4, 2) := by decide +kernel
theorem dX5_in_9 : decode cX5_in 9 = .ok (.lcmp, 1) := by decide +kernel
theorem dX5_in_10 : decode cX5_in 10 = .ok (.ifCond .gt 7, 3) := by decide +kernel
theorem dX5_in_13 : decode cX5_in 13 = .ok (.iconst 1, 1) := by decide +kernel
theorem dX5_in_14 : decode cX5_in 14 = .ok (.goto 4, 3) := by decide +kernel
theorem dX5_in_17 : decode cX5_in 17 = .ok (.iconst 0, 1) := by decide +kernel
theorem dX5_in_18 : decode cX5_in 18 = .ok (.ireturn, 1) := by decide +kernel
theorem dX5_init_0 : decode cX5_init 0 = .ok (.aload_n 0, 1) := by decide +kernel
theorem dX5_init_1 : decode cX5_init 1 = .ok (.invokespecial 1, 3) := by decide +kernel
theorem dX5_init_4 : decode cX5_init 4 = .ok (.aload_n 0, 1) := by decide +kernel
theorem dX5_init_5 : decode cX5_init 5 = .ok (.bipush 65, 2) := by decide +kernel
theorem dX5_init_7 : decode cX5_init 7 = .ok (.newarray .int, 2) := by decide +kernel
theorem dX5_init_9 : decode cX5_init 9 = .ok (.putfield 7, 3) := by decide +kernel
theorem dX5_init_12 : decode cX5_init 12 = .ok (.aload_n 0, 1) := by decide +kernel
theorem dX5_init_13 : decode cX5_init 13 = .ok (.bipush 70, 2) := by decide +kernel
theorem dX5_init_15 : decode cX5_init 15 = .ok (.newarray .int, 2) := by decide +kernel
theorem dX5_init_17 : decode cX5_init 17 = .ok (.putfield 13, 3) := by decide +kernel
theorem dX5_init_20 : decode cX5_init 20 = .ok (.aload_n 0, 1) := by decide +kernel
theorem dX5_init_21 : decode cX5_init 21 = .ok (.bipush 12, 2) := by decide +kernel
theorem dX5_init_23 : decode cX5_init 23 = .ok (.newarray .int, 2) := by decide +kernel
theorem dX5_init_25 : decode cX5_init 25 = .ok (.putfield 16, 3) := by decide +kernel
theorem dX5_init_28 : decode cX5_init 28 = .ok (.aload_n 0, 1) := by decide +kernel
theorem dX5_init_29 : decode cX5_init 29 = .ok (.bipush 8, 2) := by decide +kernel
theorem dX5_init_31 : decode cX5_init 31 = .ok (.newarray .int, 2) := by decide +kernel
theorem dX5_init_33 : decode cX5_init 33 = .ok (.putfield 19, 3) := by decide +kernel
theorem dX5_init_36 : decode cX5_init 36 = .ok (.aload_n 0, 1) := by decide +kernel
theorem dX5_init_37 : decode cX5_init 37 = .ok (.sipush 400, 3) := by decide +kernel
theorem dX5_init_40 : decode cX5_init 40 = .ok (.newarray .int, 2) := by decide +kernel
theorem dX5_init_42 : decode cX5_init 42 = .ok (.putfield 22, 3) := by decide +kernel
theorem dX5_init_45 : decode cX5_init 45 = .ok (.aload_n 0, 1) := by decide +kernel
theorem dX5_init_46 : decode cX5_init 46 = .ok (.bipush 65, 2) := by decide +kernel
theorem dX5_init_48 : decode cX5_init 48 = .ok (.newarray .int, 2) := by decide +kernel
theorem dX5_init_50 : decode cX5_init 50 = .ok (.putfield 25, 3) := by decide +kernel
theorem dX5_init_53 : decode cX5_init 53 = .ok (.aload_n 0, 1) := by decide +kernel
theorem dX5_init_54 : decode cX5_init 54 = .ok (.sipush 465, 3) := by decide +kernel
theorem dX5_init_57 : decode cX5_init 57 = .ok (.newarray .int, 2) := by decide +kernel
theorem dX5_init_59 : decode cX5_init 59 = .ok (.putfield 28, 3) := by decide +kernel
theorem dX5_init_62 : decode cX5_init 62 = .ok (.aload_n 0, 1) := by decide +kernel
theorem dX5_init_63 : decode cX5_init 63 = .ok (.iconst 4, 1) := by decide +kernel
theorem dX5_init_64 : decode cX5_init 64 = .ok (.newarray .int, 2) := by decide +kernel
theorem dX5_init_66 : decode cX5_init 66 = .ok (.putfield 31, 3) := by decide +kernel
theorem dX5_init_69 : decode cX5_init 69 = .ok (.aload_n 0, 1) := by decide +kernel
theorem dX5_init_70 : decode cX5_init 70 = .ok (.iconst 4, 1) := by decide +kernel
theorem dX5_init_71 : decode cX5_init 71 = .ok (.newarray .int, 2) := by decide +kernel
theorem dX5_init_73 : decode cX5_init 73 = .ok (.putfield 34, 3) := by decide +kernel
theorem dX5_init_76 : decode cX5_init 76 = .ok (.aload_n 0, 1) := by decide +kernel
theorem dX5_init_77 : decode cX5_init 77 = .ok (.bipush 96, 2) := by decide +kernel
theorem dX5_init_79 : decode cX5_init 79 = .ok (.newarray .long, 2) := by decide +kernel
theorem dX5_init_81 : decode cX5_init 81 = .ok (.putfield 37, 3) := by decide +kernel
theorem dX5_init_84 : decode cX5_init 84 = .ok (.aload_n 0, 1) := by decide +kernel
theorem dX5_init_85 : decode cX5_init 85 = .ok (.bipush 24, 2) := by decide +kernel
theorem dX5_init_87 : decode cX5_init 87 = .ok (.newarray .long, 2) := by decide +kernel
theorem dX5_init_89 : decode cX5_init 89 = .ok (.putfield 41, 3) := by decide +kernel
theorem dX5_init_92 : decode cX5_init 92 = .ok (.aload_n 0, 1) := by decide +kernel
theorem dX5_init_93 : decode cX5_init 93 = .ok (.getfield 7, 3) := by decide +kernel
theorem dX5_init_96 : decode cX5_init 96 = .ok (.iconst 2, 1) := by decide +kernel
theorem dX5_init_97 : decode cX5_init 97 = .ok (.iconst 5, 1) := by decide +kernel
theorem dX5_init_98 : decode cX5_init 98 = .ok (.iastore, 1) := by decide +kernel
theorem dX5_init_99 : decode cX5_init 99 = .ok (.aload_n 0, 1) := by decide +kernel
theorem dX5_init_100 : decode cX5_init 100 = .ok (.getfield 7, 3) := by decide +kernel
theorem dX5_init_103 : decode cX5_init 103 = .ok (.iconst 3, 1) := by decide +kernel
theorem dX5_init_104 : decode cX5_init 104 = .ok (.bipush 7, 2) := by decide +kernel
theorem dX5_init_106 : decode cX5_init 106 = .ok (.iastore, 1) := by decide +kernel
theorem dX5_init_107 : decode cX5_init 107 = .ok (.aload_n 0, 1) := by decide +kernel
theorem dX5_init_108 : decode cX5_init 108 = .ok (.getfield 7, 3) := by decide +kernel
theorem dX5_init_111 : decode cX5_init 111 = .ok (.iconst 4, 1) := by decide +kernel
theorem dX5_init_112 : decode cX5_init 112 = .ok (.iconst 1, 1) := by decide +kernel
theorem dX5_init_113 : decode cX5_init 113 = .ok (.iastore, 1) := by decide +kernel
theorem dX5_init_114 : decode cX5_init 114 = .ok (.bipush 17, 2) := by decide +kernel
theorem dX5_init_116 : decode cX5_init 116 = .ok (.istore_n 1, 1) := by decide +kernel
theorem dX5_init_117 : decode cX5_init 117 = .ok (.iload_n 1, 1) := by decide +kernel
theorem dX5_init_118 : decode cX5_init 118 = .ok (.bipush 65, 2) := by decide +kernel
theorem dX5_init_120 : decode cX5_init 120 = .ok (.if_icmp .ge 16, 3) := by decide +kernel
theorem dX5_init_123 : decode cX5_init 123 = .ok (.aload_n 0, 1) := by decide +kernel
theorem dX5_init_124 : decode cX5_init 124 = .ok (.getfield 7, 3) := by decide +kernel
theorem dX5_init_127 : decode cX5_init 127 = .ok (.iload_n 1, 1) := by decide +kernel
theorem dX5_init_128 : decode cX5_init 128 = .ok (.iconst (-1), 1) := by decide +kernel
theorem dX5_init_129 : decode cX5_init 129 = .ok (.iastore, 1) := by decide +kernel
theorem dX5_init_130 : decode cX5_init 130 = .ok (.iinc 1 1, 3) := by decide +kernel
theorem dX5_init_133 : decode cX5_init 133 = .ok (.goto (-16), 3) := by decide +kernel
theorem dX5_init_136 : decode cX5_init 136 = .ok (.iconst 0, 1) := by decide +kernel
theorem dX5_init_137 : decode cX5_init 137 = .ok (.istore_n 1, 1) := by decide +kernel
theorem dX5_init_138 : decode cX5_init 138 = .ok (.iload_n 1, 1) := by decide +kernel
theorem dX5_init_139 : decode cX5_init 139 = .ok (.iconst 4, 1) := by decide +kernel
theorem dX5_init_140 : decode cX5_init 140 = .ok (.if_icmp .ge 16, 3) := by decide +kernel
theorem dX5_init_143 : decode cX5_init 143 = .ok (.aload_n 0, 1) := by decide +kernel
theorem dX5_init_144 : decode cX5_init 144 = .ok (.getfield 31, 3) := by decide +kernel
theorem dX5_init_147 : decode cX5_init 147 = .ok (.iload_n 1, 1) := by decide +kernel
theorem dX5_init_148 : decode cX5_init 148 = .ok (.iconst (-1), 1) := by decide +kernel
theorem dX5_init_149 : decode cX5_init 149 = .ok (.iastore, 1) := by decide +kernel
theorem dX5_init_150 : decode cX5_init 150 = .ok (.iinc 1 1, 3) := by decide +kernel
theorem dX5_init_153 : decode cX5_init 153 = .ok (.goto (-15), 3) := by decide +kernel
theorem dX5_init_156 : decode cX5_init 156 = .ok (.return_, 1) := by decide +kernel
set_option maxRecDepth 20000 in
theorem ggX5_isPerson_X5_in : GoodIn wsX5_isPerson wsX5_in := goodIn_r _ [5] (by decide +kernel) (by decide +kernel)
set_option maxRecDepth 20000 in
theorem gX5_isPerson_X5_in : GoodIn wsX5_isPerson (va_wsS RX5 44 yX5_in wsX5_in) := goodIn_app (goodIn_of _ (by decide +kernel)) ggX5_isPerson_X5_in
theorem dX5_isPerson_0 : decode cX5_isPerson 0 = .ok (.iload_n 1, 1) := by decide +kernel
theorem dX5_isPerson_1 : decode cX5_isPerson 1 = .ok (.i2l, 1) := by decide +kernel
theorem dX5_isPerson_2 : decode cX5_isPerson 2 = .ok (.lconst 0, 1) := by decide +kernel
theorem dX5_isPerson_3 : decode cX5_isPerson 3 = .ok (.aload_n 0, 1) := by decide +kernel
theorem dX5_isPerson_4 : decode cX5_isPerson 4 = .ok (.getfield 7, 3) := by decide +kernel
theorem dX5_isPerson_7 : decode cX5_isPerson 7 = .ok (.iconst 0, 1) := by decide +kernel
theorem dX5_isPerson_8 : decode cX5_isPerson 8 = .ok (.iaload, 1) := by decide +kernel
theorem dX5_isPerson_9 : decode cX5_isPerson 9 = .ok (.iconst 1, 1) := by decide +kernel
theorem dX5_isPerson_10 : decode cX5_isPerson 10 = .ok (.isub, 1) := by decide +kernel
theorem dX5_isPerson_11 : decode cX5_isPerson 11 = .ok (.i2l, 1) := by decide +kernel
theorem dX5_isPerson_12 : decode cX5_isPerson 12 = .ok (.invokestatic 44, 3) := by decide +kernel
theorem dX5_isPerson_15 : decode cX5_isPerson 15 = .ok (.ireturn, 1) := by decide +kernel
set_option maxRecDepth 20000 in
theorem ggX5_isThing_X5_in : GoodIn wsX5_isThing wsX5_in := goodIn_r _ [5] (by decide +kernel) (by decide +kernel)
set_option maxRecDepth 20000 in
theorem gX5_isThing_X5_in : GoodIn wsX5_isThing (va_wsS RX5 44 yX5_in wsX5_in) := goodIn_app (goodIn_of _ (by decide +kernel)) ggX5_isThing_X5_in
theorem dX5_isThing_0 : decode cX5_isThing 0 = .ok (.iload_n 0, 1) := by decide +kernel
theorem dX5_isThing_1 : decode cX5_isThing 1 = .ok (.i2l, 1) := by decide +kernel
theorem dX5_isThing_2 : decode cX5_isThing 2 = .ok (.lconst 0, 1) := by decide +kernel
theorem dX5_isThing_3 : decode cX5_isThing 3 = .ok (.ldc2_w 48, 3) := by decide +kernel
theorem dX5_isThing_6 : decode cX5_isThing 6 = .ok (.invokestatic 44, 3) := by decide +kernel
theorem dX5_isThing_9 : decode cX5_isThing 9 = .ok (.ireturn, 1) := by decide +kernel
set_option maxRecDepth 20000 in
theorem ggX5_isHeat_X5_in : GoodIn wsX5_isHeat wsX5_in := goodIn_r _ [5] (by decide +kernel) (by decide +kernel)
set_option maxRecDepth 20000 in
theorem gX5_isHeat_X5_in : GoodIn wsX5_isHeat (va_wsS RX5 44 yX5_in wsX5_in) := goodIn_app (goodIn_of _ (by decide +kernel)) ggX5_isHeat_X5_in
theorem dX5_isHeat_0 : decode cX5_isHeat 0 = .ok (.iload_n 0, 1) := by decide +kernel
theorem dX5_isHeat_1 : decode cX5_isHeat 1 = .ok (.i2l, 1) := by decide +kernel
theorem dX5_isHeat_2 : decode cX5_isHeat 2 = .ok (.lconst 0, 1) := by decide +kernel
theorem dX5_isHeat_3 : decode cX5_isHeat 3 = .ok (.ldc2_w 50, 3) := by decide +kernel
theorem dX5_isHeat_6 : decode cX5_isHeat 6 = .ok (.invokestatic 44, 3) := by decide +kernel
theorem dX5_isHeat_9 : decode cX5_isHeat 9 = .ok (.ireturn, 1) := by decide +kernel
theorem dX5_sealOf_0 : decode cX5_sealOf 0 = .ok (.aload_n 0, 1) := by decide +kernel
theorem dX5_sealOf_1 : decode cX5_sealOf 1 = .ok (.getfield 7, 3) := by decide +kernel
theorem dX5_sealOf_4 : decode cX5_sealOf 4 = .ok (.bipush 17, 2) := by decide +kernel
theorem dX5_sealOf_6 : decode cX5_sealOf 6 = .ok (.bipush 8, 2) := by decide +kernel
theorem dX5_sealOf_8 : decode cX5_sealOf 8 = .ok (.iload_n 1, 1) := by decide +kernel
theorem dX5_sealOf_9 : decode cX5_sealOf 9 = .ok (.imul, 1) := by decide +kernel
theorem dX5_sealOf_10 : decode cX5_sealOf 10 = .ok (.iadd, 1) := by decide +kernel
theorem dX5_sealOf_11 : decode cX5_sealOf 11 = .ok (.iload_n 2, 1) := by decide +kernel
theorem dX5_sealOf_12 : decode cX5_sealOf 12 = .ok (.iadd, 1) := by decide +kernel
theorem dX5_sealOf_13 : decode cX5_sealOf 13 = .ok (.iaload, 1) := by decide +kernel
theorem dX5_sealOf_14 : decode cX5_sealOf 14 = .ok (.ireturn, 1) := by decide +kernel
set_option maxRecDepth 20000 in
theorem ggX5_knows_X5_sealOf : GoodIn wsX5_knows wsX5_sealOf := goodIn_r _ [5, 6, 7, 8, 9, 10, 11, 12, 13, 14, 15, 16, 17, 18, 19, 20, 21, 22, 23] (by decide +kernel) (by decide +kernel)
set_option maxRecDepth 20000 in
theorem gX5_knows_X5_sealOf : GoodIn wsX5_knows (wsV RX5 52 RX5 yX5_sealOf wsX5_sealOf) := goodIn_app (goodIn_of _ (by decide +kernel)) ggX5_knows_X5_sealOf
theorem dX5_knows_0 : decode cX5_knows 0 = .ok (.aload_n 0, 1) := by decide +kernel
theorem dX5_knows_1 : decode cX5_knows 1 = .ok (.iload_n 1, 1) := by decide +kernel
theorem dX5_knows_2 : decode cX5_knows 2 = .ok (.iload_n 2, 1) := by decide +kernel
theorem dX5_knows_3 : decode cX5_knows 3 = .ok (.invokevirtual 52, 3) := by decide +kernel
theorem dX5_knows_6 : decode cX5_knows 6 = .ok (.ifCond .lt 7, 3) := by decide +kernel
theorem dX5_knows_9 : decode cX5_knows 9 = .ok (.iconst 1, 1) := by decide +kernel
theorem dX5_knows_10 : decode cX5_knows 10 = .ok (.goto 4, 3) := by decide +kernel
theorem dX5_knows_13 : decode cX5_knows 13 = .ok (.iconst 0, 1) := by decide +kernel
theorem dX5_knows_14 : decode cX5_knows 14 = .ok (.ireturn, 1) := by decide +kernel
set_option maxRecDepth 20000 in
theorem ggX5_who_X5_knows : GoodIn wsX5_who wsX5_knows := goodIn_r _ [6, 7, 8, 9, 5, 10, 1, 11, 12, 13, 14, 15, 16, 17, 18, 19, 20, 21, 22, 23, 24, 25, 26, 27] (by decide +kernel) (by decide +kernel)
set_option maxRecDepth 20000 in
theorem gX5_who_X5_knows : GoodIn wsX5_who (wsV RX5 56 RX5 yX5_knows wsX5_knows) := goodIn_app (goodIn_of _ (by decide +kernel)) ggX5_who_X5_knows
theorem dX5_who_0 : decode cX5_who 0 = .ok (.iconst 0, 1) := by decide +kernel
theorem dX5_who_1 : decode cX5_who 1 = .ok (.istore_n 2, 1) := by decide +kernel
theorem dX5_who_2 : decode cX5_who 2 = .ok (.iconst 0, 1) := by decide +kernel
theorem dX5_who_3 : decode cX5_who 3 = .ok (.istore_n 3, 1) := by decide +kernel
theorem dX5_who_4 : decode cX5_who 4 = .ok (.iload_n 3, 1) := by decide +kernel
theorem dX5_who_5 : decode cX5_who 5 = .ok (.aload_n 0, 1) := by decide +kernel
theorem dX5_who_6 : decode cX5_who 6 = .ok (.getfield 7, 3) := by decide +kernel
theorem dX5_who_9 : decode cX5_who 9 = .ok (.iconst 0, 1) := by decide +kernel
theorem dX5_who_10 : decode cX5_who 10 = .ok (.iaload, 1) := by decide +kernel
theorem dX5_who_11 : decode cX5_who 11 = .ok (.if_icmp .ge 28, 3) := by decide +kernel
theorem dX5_who_14 : decode cX5_who 14 = .ok (.iload_n 2, 1) := by decide +kernel
theorem dX5_who_15 : decode cX5_who 15 = .ok (.aload_n 0, 1) := by decide +kernel
theorem dX5_who_16 : decode cX5_who 16 = .ok (.iload_n 3, 1) := by decide +kernel
theorem dX5_who_17 : decode cX5_who 17 = .ok (.iload_n 1, 1) := by decide +kernel
theorem dX5_who_18 : decode cX5_who 18 = .ok (.invokevirtual 56, 3) := by decide +kernel
theorem dX5_who_21 : decode cX5_who 21 = .ok (.ifCond .eq 9, 3) := by decide +kernel
theorem dX5_who_24 : decode cX5_who 24 = .ok (.iconst 1, 1) := by decide +kernel
theorem dX5_who_25 : decode cX5_who 25 = .ok (.iload_n 3, 1) := by decide +kernel
theorem dX5_who_26 : decode cX5_who 26 = .ok (.ishl, 1) := by decide +kernel
theorem dX5_who_27 : decode cX5_who 27 = .ok (.goto 4, 3) := by decide +kernel
theorem dX5_who_30 : decode cX5_who 30 = .ok (.iconst 0, 1) := by decide +kernel
theorem dX5_who_31 : decode cX5_who 31 = .ok (.ior, 1) := by decide +kernel
theorem dX5_who_32 : decode cX5_who 32 = .ok (.istore_n 2, 1) := by decide +kernel
theorem dX5_who_33 : decode cX5_who 33 = .ok (.iinc 3 1, 3) := by decide +kernel
theorem dX5_who_36 : decode cX5_who 36 = .ok (.goto (-32), 3) := by decide +kernel
theorem dX5_who_39 : decode cX5_who 39 = .ok (.iload_n 2, 1) := by decide +kernel
theorem dX5_who_40 : decode cX5_who 40 = .ok (.ireturn, 1) := by decide +kernel
set_option maxRecDepth 20000 in
theorem ggX5_rank_X5_sealOf : GoodIn wsX5_rank wsX5_sealOf := goodIn_r _ [5, 6, 7, 8, 9, 10, 11, 12, 13, 14, 15, 16, 17, 18, 19, 20, 21, 22, 23] (by decide +kernel) (by decide +kernel)
set_option maxRecDepth 20000 in
theorem gX5_rank_X5_sealOf : GoodIn wsX5_rank (wsV RX5 52 RX5 yX5_sealOf wsX5_sealOf) := goodIn_app (goodIn_of _ (by decide +kernel)) ggX5_rank_X5_sealOf
theorem dX5_rank_0 : decode cX5_rank 0 = .ok (.iconst 0, 1) := by decide +kernel
theorem dX5_rank_1 : decode cX5_rank 1 = .ok (.istore_n 2, 1) := by decide +kernel
theorem dX5_rank_2 : decode cX5_rank 2 = .ok (.iconst 0, 1) := by decide +kernel
theorem dX5_rank_3 : decode cX5_rank 3 = .ok (.istore_n 3, 1) := by decide +kernel
theorem dX5_rank_4 : decode cX5_rank 4 = .ok (.iload_n 3, 1) := by decide +kernel
theorem dX5_rank_5 : decode cX5_rank 5 = .ok (.bipush 8, 2) := by decide +kernel
theorem dX5_rank_7 : decode cX5_rank 7 = .ok (.if_icmp .ge 26, 3) := by decide +kernel
theorem dX5_rank_10 : decode cX5_rank 10 = .ok (.iload_n 2, 1) := by decide +kernel
theorem dX5_rank_11 : decode cX5_rank 11 = .ok (.aload_n 0, 1) := by decide +kernel
theorem dX5_rank_12 : decode cX5_rank 12 = .ok (.iload_n 1, 1) := by decide +kernel
theorem dX5_rank_13 : decode cX5_rank 13 = .ok (.iload_n 3, 1) := by decide +kernel
theorem dX5_rank_14 : decode cX5_rank 14 = .ok (.invokevirtual 52, 3) := by decide +kernel
theorem dX5_rank_17 : decode cX5_rank 17 = .ok (.ifCond .le 7, 3) := by decide +kernel
theorem dX5_rank_20 : decode cX5_rank 20 = .ok (.iconst 1, 1) := by decide +kernel
theorem dX5_rank_21 : decode cX5_rank 21 = .ok (.goto 4, 3) := by decide +kernel
theorem dX5_rank_24 : decode cX5_rank 24 = .ok (.iconst 0, 1) := by decide +kernel
theorem dX5_rank_25 : decode cX5_rank 25 = .ok (.iadd, 1) := by decide +kernel
theorem dX5_rank_26 : decode cX5_rank 26 = .ok (.istore_n 2, 1) := by decide +kernel
theorem dX5_rank_27 : decode cX5_rank 27 = .ok (.iinc 3 1, 3) := by decide +kernel
theorem dX5_rank_30 : decode cX5_rank 30 = .ok (.goto (-26), 3) := by decide +kernel
theorem dX5_rank_33 : decode cX5_rank 33 = .ok (.iload_n 2, 1) := by decide +kernel
theorem dX5_rank_34 : decode cX5_rank 34 = .ok (.ireturn, 1) := by decide +kernel
set_option maxRecDepth 20000 in
theorem ggX5_things_X5_sealOf : GoodIn wsX5_things wsX5_sealOf := goodIn_r _ [5, 6, 11, 12, 13, 14, 15, 16, 17, 18, 19, 20, 21, 22, 23, 24, 25, 26, 27] (by decide +kernel) (by decide +kernel)
set_option maxRecDepth 20000 in
theorem gX5_things_X5_sealOf : GoodIn wsX5_things (wsV RX5 52 RX5 yX5_sealOf wsX5_sealOf) := goodIn_app (goodIn_of _ (by decide +kernel)) ggX5_things_X5_sealOf
set_option maxRecDepth 20000 in
theorem ggX5_things_X5_knows : GoodIn wsX5_things wsX5_knows := goodIn_r _ [10, 1, 2, 3, 4, 5, 6, 11, 12, 13, 14, 15, 16, 17, 18, 19, 20, 21, 22, 23, 24, 25, 26, 27] (by decide +kernel) (by decide +kernel)
set_option maxRecDepth 20000 in
theorem gX5_things_X5_knows : GoodIn wsX5_things (wsV RX5 56 RX5 yX5_knows wsX5_knows) := goodIn_app (goodIn_of _ (by decide +kernel)) ggX5_things_X5_knows
theorem dX5_things_0 : decode cX5_things 0 = .ok (.iconst 0, 1) := by decide +kernel
theorem dX5_things_1 : decode cX5_things 1 = .ok (.istore_n 3, 1) := by decide +kernel
theorem dX5_things_2 : decode cX5_things 2 = .ok (.iconst 0, 1) := by decide +kernel
theorem dX5_things_3 : decode cX5_things 3 = .ok (.istore 4, 2) := by decide +kernel
theorem dX5_things_5 : decode cX5_things 5 = .ok (.iload 4, 2) := by decide +kernel
theorem dX5_things_7 : decode cX5_things 7 = .ok (.bipush 8, 2) := by decide +kernel
theorem dX5_things_9 : decode cX5_things 9 = .ok (.if_icmp .ge 55, 3) := by decide +kernel
theorem dX5_things_12 : decode cX5_things 12 = .ok (.iload_n 3, 1) := by decide +kernel
theorem dX5_things_13 : decode cX5_things 13 = .ok (.iload_n 2, 1) := by decide +kernel
theorem dX5_things_14 : decode cX5_things 14 = .ok (.ifCond .eq 24, 3) := by decide +kernel
theorem dX5_things_17 : decode cX5_things 17 = .ok (.aload_n 0, 1) := by decide +kernel
theorem dX5_things_18 : decode cX5_things 18 = .ok (.iload_n 1, 1) := by decide +kernel
theorem dX5_things_19 : decode cX5_things 19 = .ok (.iload 4, 2) := by decide +kernel
theorem dX5_things_21 : decode cX5_things 21 = .ok (.invokevirtual 52, 3) := by decide +kernel
theorem dX5_things_24 : decode cX5_things 24 = .ok (.ifCond .ne 10, 3) := by decide +kernel
theorem dX5_things_27 : decode cX5_things 27 = .ok (.iconst 1, 1) := by decide +kernel
theorem dX5_things_28 : decode cX5_things 28 = .ok (.iload 4, 2) := by decide +kernel
theorem dX5_things_30 : decode cX5_things 30 = .ok (.ishl, 1) := by decide +kernel
theorem dX5_things_31 : decode cX5_things 31 = .ok (.goto 25, 3) := by decide +kernel
theorem dX5_things_34 : decode cX5_things 34 = .ok (.iconst 0, 1) := by decide +kernel
theorem dX5_things_35 : decode cX5_things 35 = .ok (.goto 21, 3) := by decide +kernel
theorem dX5_things_38 : decode cX5_things 38 = .ok (.aload_n 0, 1) := by decide +kernel
theorem dX5_things_39 : decode cX5_things 39 = .ok (.iload_n 1, 1) := by decide +kernel
theorem dX5_things_40 : decode cX5_things 40 = .ok (.iload 4, 2) := by decide +kernel
theorem dX5_things_42 : decode cX5_things 42 = .ok (.invokevirtual 56, 3) := by decide +kernel
theorem dX5_things_45 : decode cX5_things 45 = .ok (.ifCond .eq 10, 3) := by decide +kernel
theorem dX5_things_48 : decode cX5_things 48 = .ok (.iconst 1, 1) := by decide +kernel
theorem dX5_things_49 : decode cX5_things 49 = .ok (.iload 4, 2) := by decide +kernel
theorem dX5_things_51 : decode cX5_things 51 = .ok (.ishl, 1) := by decide +kernel
theorem dX5_things_52 : decode cX5_things 52 = .ok (.goto 4, 3) := by decide +kernel
theorem dX5_things_55 : decode cX5_things 55 = .ok (.iconst 0, 1) := by decide +kernel
theorem dX5_things_56 : decode cX5_things 56 = .ok (.ior, 1) := by decide +kernel
theorem dX5_things_57 : decode cX5_things 57 = .ok (.istore_n 3, 1) := by decide +kernel
theorem dX5_things_58 : decode cX5_things 58 = .ok (.iinc 4 1, 3) := by decide +kernel
theorem dX5_things_61 : decode cX5_things 61 = .ok (.goto (-56), 3) := by decide +kernel
theorem dX5_things_64 : decode cX5_things 64 = .ok (.iload_n 3, 1) := by decide +kernel
theorem dX5_things_65 : decode cX5_things 65 = .ok (.ireturn, 1) := by decide +kernel
theorem dX5_placeOf_0 : decode cX5_placeOf 0 = .ok (.iconst 0, 1) := by decide +kernel
theorem dX5_placeOf_1 : decode cX5_placeOf 1 = .ok (.istore_n 2, 1) := by decide +kernel
theorem dX5_placeOf_2 : decode cX5_placeOf 2 = .ok (.aload_n 0, 1) := by decide +kernel
theorem dX5_placeOf_3 : decode cX5_placeOf 3 = .ok (.getfield 7, 3) := by decide +kernel
theorem dX5_placeOf_6 : decode cX5_placeOf 6 = .ok (.bipush 11, 2) := by decide +kernel
theorem dX5_placeOf_8 : decode cX5_placeOf 8 = .ok (.iload_n 2, 1) := by decide +kernel
theorem dX5_placeOf_9 : decode cX5_placeOf 9 = .ok (.iadd, 1) := by decide +kernel
theorem dX5_placeOf_10 : decode cX5_placeOf 10 = .ok (.iaload, 1) := by decide +kernel
theorem dX5_placeOf_11 : decode cX5_placeOf 11 = .ok (.iload_n 1, 1) := by decide +kernel
theorem dX5_placeOf_12 : decode cX5_placeOf 12 = .ok (.if_icmp .eq 9, 3) := by decide +kernel
theorem dX5_placeOf_15 : decode cX5_placeOf 15 = .ok (.iinc 2 1, 3) := by decide +kernel
theorem dX5_placeOf_18 : decode cX5_placeOf 18 = .ok (.goto (-16), 3) := by decide +kernel
theorem dX5_placeOf_21 : decode cX5_placeOf 21 = .ok (.iload_n 2, 1) := by decide +kernel
theorem dX5_placeOf_22 : decode cX5_placeOf 22 = .ok (.ireturn, 1) := by decide +kernel
set_option maxRecDepth 20000 in
theorem ggX5_beside_X5_placeOf : GoodIn wsX5_beside wsX5_placeOf := goodIn_r _ [6, 1, 7, 8, 9, 10, 11, 12, 13, 14, 15, 16, 17, 18, 19, 20, 21, 22, 23] (by decide +kernel) (by decide +kernel)
set_option maxRecDepth 20000 in
theorem gX5_beside_X5_placeOf : GoodIn wsX5_beside (wsV RX5 60 RX5 yX5_placeOf wsX5_placeOf) := goodIn_app (goodIn_of _ (by decide +kernel)) ggX5_beside_X5_placeOf
theorem dX5_beside_0 : decode cX5_beside 0 = .ok (.aload_n 0, 1) := by decide +kernel
theorem dX5_beside_1 : decode cX5_beside 1 = .ok (.getfield 7, 3) := by decide +kernel
theorem dX5_beside_4 : decode cX5_beside 4 = .ok (.bipush 11, 2) := by decide +kernel
theorem dX5_beside_6 : decode cX5_beside 6 = .ok (.aload_n 0, 1) := by decide +kernel
theorem dX5_beside_7 : decode cX5_beside 7 = .ok (.iload_n 1, 1) := by decide +kernel
theorem dX5_beside_8 : decode cX5_beside 8 = .ok (.invokevirtual 60, 3) := by decide +kernel
theorem dX5_beside_11 : decode cX5_beside 11 = .ok (.iload_n 2, 1) := by decide +kernel
theorem dX5_beside_12 : decode cX5_beside 12 = .ok (.iadd, 1) := by decide +kernel
theorem dX5_beside_13 : decode cX5_beside 13 = .ok (.aload_n 0, 1) := by decide +kernel
theorem dX5_beside_14 : decode cX5_beside 14 = .ok (.getfield 7, 3) := by decide +kernel
theorem dX5_beside_17 : decode cX5_beside 17 = .ok (.iconst 0, 1) := by decide +kernel
theorem dX5_beside_18 : decode cX5_beside 18 = .ok (.iaload, 1) := by decide +kernel
theorem dX5_beside_19 : decode cX5_beside 19 = .ok (.irem, 1) := by decide +kernel
theorem dX5_beside_20 : decode cX5_beside 20 = .ok (.iadd, 1) := by decide +kernel
theorem dX5_beside_21 : decode cX5_beside 21 = .ok (.iaload, 1) := by decide +kernel
theorem dX5_beside_22 : decode cX5_beside 22 = .ok (.ireturn, 1) := by decide +kernel
set_option maxRecDepth 20000 in
theorem ggX5_times_X5_knows : GoodIn wsX5_times wsX5_knows := goodIn_r _ [6, 7, 8, 9, 5, 10, 1, 11, 12, 13, 14, 15, 16, 17, 18, 19, 20, 21, 22, 23, 24, 25, 26, 27] (by decide +kernel) (by decide +kernel)
set_option maxRecDepth 20000 in
theorem gX5_times_X5_knows : GoodIn wsX5_times (wsV RX5 56 RX5 yX5_knows wsX5_knows) := goodIn_app (goodIn_of _ (by decide +kernel)) ggX5_times_X5_knows
theorem dX5_times_0 : decode cX5_times 0 = .ok (.iconst 0, 1) := by decide +kernel
theorem dX5_times_1 : decode cX5_times 1 = .ok (.istore_n 1, 1) := by decide +kernel
theorem dX5_times_2 : decode cX5_times 2 = .ok (.iconst 0, 1) := by decide +kernel
theorem dX5_times_3 : decode cX5_times 3 = .ok (.istore_n 2, 1) := by decide +kernel
theorem dX5_times_4 : decode cX5_times 4 = .ok (.iload_n 2, 1) := by decide +kernel
theorem dX5_times_5 : decode cX5_times 5 = .ok (.aload_n 0, 1) := by decide +kernel
theorem dX5_times_6 : decode cX5_times 6 = .ok (.getfield 7, 3) := by decide +kernel
theorem dX5_times_9 : decode cX5_times 9 = .ok (.iconst 0, 1) := by decide +kernel
theorem dX5_times_10 : decode cX5_times 10 = .ok (.iaload, 1) := by decide +kernel
theorem dX5_times_11 : decode cX5_times 11 = .ok (.if_icmp .ge 40, 3) := by decide +kernel
theorem dX5_times_14 : decode cX5_times 14 = .ok (.iconst 0, 1) := by decide +kernel
theorem dX5_times_15 : decode cX5_times 15 = .ok (.istore_n 3, 1) := by decide +kernel
theorem dX5_times_16 : decode cX5_times 16 = .ok (.iload_n 3, 1) := by decide +kernel
theorem dX5_times_17 : decode cX5_times 17 = .ok (.bipush 8, 2) := by decide +kernel
theorem dX5_times_19 : decode cX5_times 19 = .ok (.if_icmp .ge 26, 3) := by decide +kernel
theorem dX5_times_22 : decode cX5_times 22 = .ok (.iload_n 1, 1) := by decide +kernel
theorem dX5_times_23 : decode cX5_times 23 = .ok (.aload_n 0, 1) := by decide +kernel
theorem dX5_times_24 : decode cX5_times 24 = .ok (.iload_n 2, 1) := by decide +kernel
theorem dX5_times_25 : decode cX5_times 25 = .ok (.iload_n 3, 1) := by decide +kernel
theorem dX5_times_26 : decode cX5_times 26 = .ok (.invokevirtual 56, 3) := by decide +kernel
theorem dX5_times_29 : decode cX5_times 29 = .ok (.ifCond .eq 7, 3) := by decide +kernel
theorem dX5_times_32 : decode cX5_times 32 = .ok (.iconst 1, 1) := by decide +kernel
theorem dX5_times_33 : decode cX5_times 33 = .ok (.goto 4, 3) := by decide +kernel
theorem dX5_times_36 : decode cX5_times 36 = .ok (.iconst 0, 1) := by decide +kernel
theorem dX5_times_37 : decode cX5_times 37 = .ok (.iadd, 1) := by decide +kernel
theorem dX5_times_38 : decode cX5_times 38 = .ok (.istore_n 1, 1) := by decide +kernel
theorem dX5_times_39 : decode cX5_times 39 = .ok (.iinc 3 1, 3) := by decide +kernel
theorem dX5_times_42 : decode cX5_times 42 = .ok (.goto (-26), 3) := by decide +kernel
theorem dX5_times_45 : decode cX5_times 45 = .ok (.iinc 2 1, 3) := by decide +kernel
theorem dX5_times_48 : decode cX5_times 48 = .ok (.goto (-44), 3) := by decide +kernel
theorem dX5_times_51 : decode cX5_times 51 = .ok (.iload_n 1, 1) := by decide +kernel
theorem dX5_times_52 : decode cX5_times 52 = .ok (.ireturn, 1) := by decide +kernel
set_option maxRecDepth 20000 in
theorem ggX5_openOnes_X5_sealOf : GoodIn wsX5_openOnes wsX5_sealOf := goodIn_r _ [6, 1, 7, 8, 9, 10, 11, 12, 13, 14, 15, 16, 17, 18, 19, 20, 21, 22, 23] (by decide +kernel) (by decide +kernel)
set_option maxRecDepth 20000 in
theorem gX5_openOnes_X5_sealOf : GoodIn wsX5_openOnes (wsV RX5 52 RX5 yX5_sealOf wsX5_sealOf) := goodIn_app (goodIn_of _ (by decide +kernel)) ggX5_openOnes_X5_sealOf
theorem dX5_openOnes_0 : decode cX5_openOnes 0 = .ok (.iconst 0, 1) := by decide +kernel
theorem dX5_openOnes_1 : decode cX5_openOnes 1 = .ok (.istore_n 1, 1) := by decide +kernel
theorem dX5_openOnes_2 : decode cX5_openOnes 2 = .ok (.iconst 0, 1) := by decide +kernel
theorem dX5_openOnes_3 : decode cX5_openOnes 3 = .ok (.istore_n 2, 1) := by decide +kernel
theorem dX5_openOnes_4 : decode cX5_openOnes 4 = .ok (.iload_n 2, 1) := by decide +kernel
theorem dX5_openOnes_5 : decode cX5_openOnes 5 = .ok (.aload_n 0, 1) := by decide +kernel
theorem dX5_openOnes_6 : decode cX5_openOnes 6 = .ok (.getfield 7, 3) := by decide +kernel
theorem dX5_openOnes_9 : decode cX5_openOnes 9 = .ok (.iconst 0, 1) := by decide +kernel
theorem dX5_openOnes_10 : decode cX5_openOnes 10 = .ok (.iaload, 1) := by decide +kernel
theorem dX5_openOnes_11 : decode cX5_openOnes 11 = .ok (.if_icmp .ge 40, 3) := by decide +kernel
theorem dX5_openOnes_14 : decode cX5_openOnes 14 = .ok (.iconst 0, 1) := by decide +kernel
theorem dX5_openOnes_15 : decode cX5_openOnes 15 = .ok (.istore_n 3, 1) := by decide +kernel
theorem dX5_openOnes_16 : decode cX5_openOnes 16 = .ok (.iload_n 3, 1) := by decide +kernel
theorem dX5_openOnes_17 : decode cX5_openOnes 17 = .ok (.bipush 8, 2) := by decide +kernel
theorem dX5_openOnes_19 : decode cX5_openOnes 19 = .ok (.if_icmp .ge 26, 3) := by decide +kernel
theorem dX5_openOnes_22 : decode cX5_openOnes 22 = .ok (.iload_n 1, 1) := by decide +kernel
theorem dX5_openOnes_23 : decode cX5_openOnes 23 = .ok (.aload_n 0, 1) := by decide +kernel
theorem dX5_openOnes_24 : decode cX5_openOnes 24 = .ok (.iload_n 2, 1) := by decide +kernel
theorem dX5_openOnes_25 : decode cX5_openOnes 25 = .ok (.iload_n 3, 1) := by decide +kernel
theorem dX5_openOnes_26 : decode cX5_openOnes 26 = .ok (.invokevirtual 52, 3) := by decide +kernel
theorem dX5_openOnes_29 : decode cX5_openOnes 29 = .ok (.ifCond .ne 7, 3) := by decide +kernel
theorem dX5_openOnes_32 : decode cX5_openOnes 32 = .ok (.iconst 1, 1) := by decide +kernel
theorem dX5_openOnes_33 : decode cX5_openOnes 33 = .ok (.goto 4, 3) := by decide +kernel
theorem dX5_openOnes_36 : decode cX5_openOnes 36 = .ok (.iconst 0, 1) := by decide +kernel
theorem dX5_openOnes_37 : decode cX5_openOnes 37 = .ok (.iadd, 1) := by decide +kernel
theorem dX5_openOnes_38 : decode cX5_openOnes 38 = .ok (.istore_n 1, 1) := by decide +kernel
theorem dX5_openOnes_39 : decode cX5_openOnes 39 = .ok (.iinc 3 1, 3) := by decide +kernel
theorem dX5_openOnes_42 : decode cX5_openOnes 42 = .ok (.goto (-26), 3) := by decide +kernel
theorem dX5_openOnes_45 : decode cX5_openOnes 45 = .ok (.iinc 2 1, 3) := by decide +kernel
theorem dX5_openOnes_48 : decode cX5_openOnes 48 = .ok (.goto (-44), 3) := by decide +kernel
theorem dX5_openOnes_51 : decode cX5_openOnes 51 = .ok (.iload_n 1, 1) := by decide +kernel
theorem dX5_openOnes_52 : decode cX5_openOnes 52 = .ok (.ireturn, 1) := by decide +kernel
set_option maxRecDepth 20000 in
theorem ggX5_isOut_X5_who : GoodIn wsX5_isOut wsX5_who := goodIn_r _ [6, 1, 7, 8, 9, 5, 10, 11, 12, 13, 14, 15, 16, 17, 18, 19, 20, 21, 22, 23, 24, 25, 26, 27, 28, 29, 30, 31] (by decide +kernel) (by decide +kernel)
set_option maxRecDepth 20000 in
theorem gX5_isOut_X5_who : GoodIn wsX5_isOut (wsV RX5 64 RX5 yX5_who wsX5_who) := goodIn_app (goodIn_of _ (by decide +kernel)) ggX5_isOut_X5_who
theorem dX5_isOut_0 : decode cX5_isOut 0 = .ok (.aload_n 0, 1) := by decide +kernel
theorem dX5_isOut_1 : decode cX5_isOut 1 = .ok (.getfield 7, 3) := by decide +kernel
theorem dX5_isOut_4 : decode cX5_isOut 4 = .ok (.iconst 0, 1) := by decide +kernel
theorem dX5_isOut_5 : decode cX5_isOut 5 = .ok (.iaload, 1) := by decide +kernel
theorem dX5_isOut_6 : decode cX5_isOut 6 = .ok (.ifCond .le 25, 3) := by decide +kernel
theorem dX5_isOut_9 : decode cX5_isOut 9 = .ok (.aload_n 0, 1) := by decide +kernel
theorem dX5_isOut_10 : decode cX5_isOut 10 = .ok (.iload_n 1, 1) := by decide +kernel
theorem dX5_isOut_11 : decode cX5_isOut 11 = .ok (.invokevirtual 64, 3) := by decide +kernel
theorem dX5_isOut_14 : decode cX5_isOut 14 = .ok (.iconst 1, 1) := by decide +kernel
theorem dX5_isOut_15 : decode cX5_isOut 15 = .ok (.aload_n 0, 1) := by decide +kernel
theorem dX5_isOut_16 : decode cX5_isOut 16 = .ok (.getfield 7, 3) := by decide +kernel
theorem dX5_isOut_19 : decode cX5_isOut 19 = .ok (.iconst 0, 1) := by decide +kernel
theorem dX5_isOut_20 : decode cX5_isOut 20 = .ok (.iaload, 1) := by decide +kernel
theorem dX5_isOut_21 : decode cX5_isOut 21 = .ok (.ishl, 1) := by decide +kernel
theorem dX5_isOut_22 : decode cX5_isOut 22 = .ok (.iconst 1, 1) := by decide +kernel
theorem dX5_isOut_23 : decode cX5_isOut 23 = .ok (.isub, 1) := by decide +kernel
theorem dX5_isOut_24 : decode cX5_isOut 24 = .ok (.if_icmp .ne 7, 3) := by decide +kernel
theorem dX5_isOut_27 : decode cX5_isOut 27 = .ok (.iconst 1, 1) := by decide +kernel
theorem dX5_isOut_28 : decode cX5_isOut 28 = .ok (.goto 4, 3) := by decide +kernel
theorem dX5_isOut_31 : decode cX5_isOut 31 = .ok (.iconst 0, 1) := by decide +kernel
theorem dX5_isOut_32 : decode cX5_isOut 32 = .ok (.ireturn, 1) := by decide +kernel
set_option maxRecDepth 20000 in
theorem ggX5_outOnes_X5_isOut : GoodIn wsX5_outOnes wsX5_isOut := goodIn_r _ [5, 6, 7, 8, 9, 4, 10, 11, 12, 13, 14, 15, 16, 17, 18, 19, 20, 21, 22, 23, 24, 25, 26, 27, 28, 29, 30, 31, 32, 33, 34, 35] (by decide +kernel) (by decide +kernel)
set_option maxRecDepth 20000 in
theorem gX5_outOnes_X5_isOut : GoodIn wsX5_outOnes (wsV RX5 67 RX5 yX5_isOut wsX5_isOut) := goodIn_app (goodIn_of _ (by decide +kernel)) ggX5_outOnes_X5_isOut
theorem dX5_outOnes_0 : decode cX5_outOnes 0 = .ok (.iconst 0, 1) := by decide +kernel
theorem dX5_outOnes_1 : decode cX5_outOnes 1 = .ok (.istore_n 1, 1) := by decide +kernel
theorem dX5_outOnes_2 : decode cX5_outOnes 2 = .ok (.iconst 0, 1) := by decide +kernel
theorem dX5_outOnes_3 : decode cX5_outOnes 3 = .ok (.istore_n 2, 1) := by decide +kernel
theorem dX5_outOnes_4 : decode cX5_outOnes 4 = .ok (.iload_n 2, 1) := by decide +kernel
theorem dX5_outOnes_5 : decode cX5_outOnes 5 = .ok (.bipush 8, 2) := by decide +kernel
theorem dX5_outOnes_7 : decode cX5_outOnes 7 = .ok (.if_icmp .ge 27, 3) := by decide +kernel
theorem dX5_outOnes_10 : decode cX5_outOnes 10 = .ok (.iload_n 1, 1) := by decide +kernel
theorem dX5_outOnes_11 : decode cX5_outOnes 11 = .ok (.aload_n 0, 1) := by decide +kernel
theorem dX5_outOnes_12 : decode cX5_outOnes 12 = .ok (.iload_n 2, 1) := by decide +kernel
theorem dX5_outOnes_13 : decode cX5_outOnes 13 = .ok (.invokevirtual 67, 3) := by decide +kernel
theorem dX5_outOnes_16 : decode cX5_outOnes 16 = .ok (.ifCond .eq 9, 3) := by decide +kernel
theorem dX5_outOnes_19 : decode cX5_outOnes 19 = .ok (.iconst 1, 1) := by decide +kernel
theorem dX5_outOnes_20 : decode cX5_outOnes 20 = .ok (.iload_n 2, 1) := by decide +kernel
theorem dX5_outOnes_21 : decode cX5_outOnes 21 = .ok (.ishl, 1) := by decide +kernel
theorem dX5_outOnes_22 : decode cX5_outOnes 22 = .ok (.goto 4, 3) := by decide +kernel
theorem dX5_outOnes_25 : decode cX5_outOnes 25 = .ok (.iconst 0, 1) := by decide +kernel
theorem dX5_outOnes_26 : decode cX5_outOnes 26 = .ok (.ior, 1) := by decide +kernel
theorem dX5_outOnes_27 : decode cX5_outOnes 27 = .ok (.istore_n 1, 1) := by decide +kernel
theorem dX5_outOnes_28 : decode cX5_outOnes 28 = .ok (.iinc 2 1, 3) := by decide +kernel
theorem dX5_outOnes_31 : decode cX5_outOnes 31 = .ok (.goto (-27), 3) := by decide +kernel
theorem dX5_outOnes_34 : decode cX5_outOnes 34 = .ok (.iload_n 1, 1) := by decide +kernel
theorem dX5_outOnes_35 : decode cX5_outOnes 35 = .ok (.ireturn, 1) := by decide +kernel
set_option maxRecDepth 20000 in
theorem ggX5_person_X5_in : GoodIn wsX5_person wsX5_in := goodIn_r _ [6] (by decide +kernel) (by decide +kernel)
set_option maxRecDepth 20000 in
theorem gX5_person_X5_in : GoodIn wsX5_person (va_wsS RX5 44 yX5_in wsX5_in) := goodIn_app (goodIn_of _ (by decide +kernel)) ggX5_person_X5_in
set_option maxRecDepth 20000 in
theorem ggX5_person_X5_comes : GoodIn wsX5_person wsX5_comes := goodIn_r _ [10, 2, 11, 12, 13, 14, 15, 16, 17, 18, 19, 20, 21, 22, 23, 24, 25, 26, 27, 28] (by decide +kernel) (by decide +kernel)
set_option maxRecDepth 20000 in
theorem gX5_person_X5_comes : GoodIn wsX5_person (wsV RX5 73 RX5 yX5_comes wsX5_comes) := goodIn_app (goodIn_of _ (by decide +kernel)) ggX5_person_X5_comes
theorem dX5_person_0 : decode cX5_person 0 = .ok (.iload_n 1, 1) := by decide +kernel
theorem dX5_person_1 : decode cX5_person 1 = .ok (.i2l, 1) := by decide +kernel
theorem dX5_person_2 : decode cX5_person 2 = .ok (.lconst 0, 1) := by decide +kernel
theorem dX5_person_3 : decode cX5_person 3 = .ok (.ldc2_w 71, 3) := by decide +kernel
theorem dX5_person_6 : decode cX5_person 6 = .ok (.invokestatic 44, 3) := by decide +kernel
theorem dX5_person_9 : decode cX5_person 9 = .ok (.ifCond .ne 5, 3) := by decide +kernel
theorem dX5_person_12 : decode cX5_person 12 = .ok (.iconst (-1), 1) := by decide +kernel
theorem dX5_person_13 : decode cX5_person 13 = .ok (.ireturn, 1) := by decide +kernel
theorem dX5_person_14 : decode cX5_person 14 = .ok (.aload_n 0, 1) := by decide +kernel
theorem dX5_person_15 : decode cX5_person 15 = .ok (.getfield 7, 3) := by decide +kernel
theorem dX5_person_18 : decode cX5_person 18 = .ok (.iconst 0, 1) := by decide +kernel
theorem dX5_person_19 : decode cX5_person 19 = .ok (.iaload, 1) := by decide +kernel
theorem dX5_person_20 : decode cX5_person 20 = .ok (.bipush 6, 2) := by decide +kernel
theorem dX5_person_22 : decode cX5_person 22 = .ok (.if_icmp .ne 6, 3) := by decide +kernel
theorem dX5_person_25 : decode cX5_person 25 = .ok (.bipush (-3), 2) := by decide +kernel
theorem dX5_person_27 : decode cX5_person 27 = .ok (.ireturn, 1) := by decide +kernel
theorem dX5_person_28 : decode cX5_person 28 = .ok (.aload_n 0, 1) := by decide +kernel
theorem dX5_person_29 : decode cX5_person 29 = .ok (.iload_n 1, 1) := by decide +kernel
theorem dX5_person_30 : decode cX5_person 30 = .ok (.invokevirtual 73, 3) := by decide +kernel
theorem dX5_person_33 : decode cX5_person 33 = .ok (.aload_n 0, 1) := by decide +kernel
theorem dX5_person_34 : decode cX5_person 34 = .ok (.getfield 7, 3) := by decide +kernel
theorem dX5_person_37 : decode cX5_person 37 = .ok (.iconst 0, 1) := by decide +kernel
theorem dX5_person_38 : decode cX5_person 38 = .ok (.iaload, 1) := by decide +kernel
theorem dX5_person_39 : decode cX5_person 39 = .ok (.iconst 1, 1) := by decide +kernel
theorem dX5_person_40 : decode cX5_person 40 = .ok (.isub, 1) := by decide +kernel
theorem dX5_person_41 : decode cX5_person 41 = .ok (.ireturn, 1) := by decide +kernel
theorem dX5_comes_0 : decode cX5_comes 0 = .ok (.aload_n 0, 1) := by decide +kernel
theorem dX5_comes_1 : decode cX5_comes 1 = .ok (.getfield 7, 3) := by decide +kernel
theorem dX5_comes_4 : decode cX5_comes 4 = .ok (.iconst 0, 1) := by decide +kernel
theorem dX5_comes_5 : decode cX5_comes 5 = .ok (.iaload, 1) := by decide +kernel
theorem dX5_comes_6 : decode cX5_comes 6 = .ok (.istore_n 2, 1) := by decide +kernel
theorem dX5_comes_7 : decode cX5_comes 7 = .ok (.aload_n 0, 1) := by decide +kernel
theorem dX5_comes_8 : decode cX5_comes 8 = .ok (.getfield 7, 3) := by decide +kernel
theorem dX5_comes_11 : decode cX5_comes 11 = .ok (.iconst 5, 1) := by decide +kernel
theorem dX5_comes_12 : decode cX5_comes 12 = .ok (.iload_n 2, 1) := by decide +kernel
theorem dX5_comes_13 : decode cX5_comes 13 = .ok (.iadd, 1) := by decide +kernel
theorem dX5_comes_14 : decode cX5_comes 14 = .ok (.iload_n 1, 1) := by decide +kernel
theorem dX5_comes_15 : decode cX5_comes 15 = .ok (.iastore, 1) := by decide +kernel
theorem dX5_comes_16 : decode cX5_comes 16 = .ok (.aload_n 0, 1) := by decide +kernel
theorem dX5_comes_17 : decode cX5_comes 17 = .ok (.getfield 7, 3) := by decide +kernel
theorem dX5_comes_20 : decode cX5_comes 20 = .ok (.bipush 11, 2) := by decide +kernel
theorem dX5_comes_22 : decode cX5_comes 22 = .ok (.iload_n 2, 1) := by decide +kernel
theorem dX5_comes_23 : decode cX5_comes 23 = .ok (.iadd, 1) := by decide +kernel
theorem dX5_comes_24 : decode cX5_comes 24 = .ok (.iload_n 2, 1) := by decide +kernel
theorem dX5_comes_25 : decode cX5_comes 25 = .ok (.iastore, 1) := by decide +kernel
theorem dX5_comes_26 : decode cX5_comes 26 = .ok (.iconst 0, 1) := by decide +kernel
theorem dX5_comes_27 : decode cX5_comes 27 = .ok (.istore_n 3, 1) := by decide +kernel
theorem dX5_comes_28 : decode cX5_comes 28 = .ok (.iload_n 3, 1) := by decide +kernel
theorem dX5_comes_29 : decode cX5_comes 29 = .ok (.bipush 8, 2) := by decide +kernel
theorem dX5_comes_31 : decode cX5_comes 31 = .ok (.if_icmp .ge 24, 3) := by decide +kernel
theorem dX5_comes_34 : decode cX5_comes 34 = .ok (.aload_n 0, 1) := by decide +kernel
theorem dX5_comes_35 : decode cX5_comes 35 = .ok (.getfield 7, 3) := by decide +kernel
theorem dX5_comes_38 : decode cX5_comes 38 = .ok (.bipush 17, 2) := by decide +kernel
theorem dX5_comes_40 : decode cX5_comes 40 = .ok (.bipush 8, 2) := by decide +kernel
theorem dX5_comes_42 : decode cX5_comes 42 = .ok (.iload_n 2, 1) := by decide +kernel
theorem dX5_comes_43 : decode cX5_comes 43 = .ok (.imul, 1) := by decide +kernel
theorem dX5_comes_44 : decode cX5_comes 44 = .ok (.iadd, 1) := by decide +kernel
theorem dX5_comes_45 : decode cX5_comes 45 = .ok (.iload_n 3, 1) := by decide +kernel
theorem dX5_comes_46 : decode cX5_comes 46 = .ok (.iadd, 1) := by decide +kernel
theorem dX5_comes_47 : decode cX5_comes 47 = .ok (.iconst (-1), 1) := by decide +kernel
theorem dX5_comes_48 : decode cX5_comes 48 = .ok (.iastore, 1) := by decide +kernel
theorem dX5_comes_49 : decode cX5_comes 49 = .ok (.iinc 3 1, 3) := by decide +kernel
theorem dX5_comes_52 : decode cX5_comes 52 = .ok (.goto (-24), 3) := by decide +kernel
theorem dX5_comes_55 : decode cX5_comes 55 = .ok (.aload_n 0, 1) := by decide +kernel
theorem dX5_comes_56 : decode cX5_comes 56 = .ok (.getfield 7, 3) := by decide +kernel
theorem dX5_comes_59 : decode cX5_comes 59 = .ok (.iconst 0, 1) := by decide +kernel
theorem dX5_comes_60 : decode cX5_comes 60 = .ok (.dup2, 1) := by decide +kernel
theorem dX5_comes_61 : decode cX5_comes 61 = .ok (.iaload, 1) := by decide +kernel
theorem dX5_comes_62 : decode cX5_comes 62 = .ok (.iconst 1, 1) := by decide +kernel
theorem dX5_comes_63 : decode cX5_comes 63 = .ok (.iadd, 1) := by decide +kernel
theorem dX5_comes_64 : decode cX5_comes 64 = .ok (.iastore, 1) := by decide +kernel
theorem dX5_comes_65 : decode cX5_comes 65 = .ok (.aload_n 0, 1) := by decide +kernel
theorem dX5_comes_66 : decode cX5_comes 66 = .ok (.iconst 0, 1) := by decide +kernel
theorem dX5_comes_67 : decode cX5_comes 67 = .ok (.putfield 77, 3) := by decide +kernel
theorem dX5_comes_70 : decode cX5_comes 70 = .ok (.return_, 1) := by decide +kernel
set_option maxRecDepth 20000 in
theorem ggX5_of_X5_isPerson : GoodIn wsX5_of wsX5_isPerson := goodIn_r _ [7, 2, 8, 9, 6, 10, 35, 36, 37, 38, 39, 40, 41, 42, 43, 44, 45, 46, 47, 48, 49, 50, 51] (by decide +kernel) (by decide +kernel)
set_option maxRecDepth 20000 in
theorem gX5_of_X5_isPerson : GoodIn wsX5_of (wsV RX5 81 RX5 yX5_isPerson wsX5_isPerson) := goodIn_app (goodIn_of _ (by decide +kernel)) ggX5_of_X5_isPerson
set_option maxRecDepth 20000 in
theorem ggX5_of_X5_in : GoodIn wsX5_of wsX5_in := goodIn_r _ [10] (by decide +kernel) (by decide +kernel)
set_option maxRecDepth 20000 in
theorem gX5_of_X5_in : GoodIn wsX5_of (va_wsS RX5 44 yX5_in wsX5_in) := goodIn_app (goodIn_of _ (by decide +kernel)) ggX5_of_X5_in
set_option maxRecDepth 20000 in
theorem ggX5_of_X5_things : GoodIn wsX5_of wsX5_things := goodIn_r _ [14, 15, 16, 17, 6, 18, 2, 19, 20, 21, 22, 35, 36, 37, 38, 39, 40, 41, 42, 43, 44, 45, 46, 47, 48, 49, 50, 51] (by decide +kernel) (by decide +kernel)
set_option maxRecDepth 20000 in
theorem gX5_of_X5_things : GoodIn wsX5_of (wsV RX5 86 RX5 yX5_things wsX5_things) := goodIn_app (goodIn_of _ (by decide +kernel)) ggX5_of_X5_things
set_option maxRecDepth 20000 in
theorem ggX5_of_X5_rank : GoodIn wsX5_of wsX5_rank := goodIn_r _ [26, 15, 16, 17, 6, 18, 2, 35, 36, 37, 38, 39, 40, 41, 42, 43, 44, 45, 46, 47, 48, 49, 50, 51] (by decide +kernel) (by decide +kernel)
set_option maxRecDepth 20000 in
theorem gX5_of_X5_rank : GoodIn wsX5_of (wsV RX5 90 RX5 yX5_rank wsX5_rank) := goodIn_app (goodIn_of _ (by decide +kernel)) ggX5_of_X5_rank
set_option maxRecDepth 20000 in
theorem ggX5_of_X5_beside : GoodIn wsX5_of wsX5_beside := goodIn_r _ [30, 2, 31, 32, 33, 6, 34, 35, 36, 37, 38, 39, 40, 41, 42, 43, 44, 45, 46, 47, 48, 49, 50, 51] (by decide +kernel) (by decide +kernel)
set_option maxRecDepth 20000 in
theorem gX5_of_X5_beside : GoodIn wsX5_of (wsV RX5 93 RX5 yX5_beside wsX5_beside) := goodIn_app (goodIn_of _ (by decide +kernel)) ggX5_of_X5_beside
theorem dX5_of_0 : decode cX5_of 0 = .ok (.aload_n 0, 1) := by decide +kernel
theorem dX5_of_1 : decode cX5_of 1 = .ok (.iload_n 1, 1) := by decide +kernel
theorem dX5_of_2 : decode cX5_of 2 = .ok (.invokevirtual 81, 3) := by decide +kernel
theorem dX5_of_5 : decode cX5_of 5 = .ok (.ifCond .eq 15, 3) := by decide +kernel
theorem dX5_of_8 : decode cX5_of 8 = .ok (.iload_n 2, 1) := by decide +kernel
theorem dX5_of_9 : decode cX5_of 9 = .ok (.i2l, 1) := by decide +kernel
theorem dX5_of_10 : decode cX5_of 10 = .ok (.lconst 0, 1) := by decide +kernel
theorem dX5_of_11 : decode cX5_of 11 = .ok (.ldc2_w 84, 3) := by decide +kernel
theorem dX5_of_14 : decode cX5_of 14 = .ok (.invokestatic 44, 3) := by decide +kernel
theorem dX5_of_17 : decode cX5_of 17 = .ok (.ifCond .ne 5, 3) := by decide +kernel
theorem dX5_of_20 : decode cX5_of 20 = .ok (.iconst (-1), 1) := by decide +kernel
theorem dX5_of_21 : decode cX5_of 21 = .ok (.ireturn, 1) := by decide +kernel
theorem dX5_of_22 : decode cX5_of 22 = .ok (.iload_n 2, 1) := by decide +kernel
theorem dX5_of_23 : decode cX5_of 23 = .ok (.tableswitch 69 0 4 #[33, 42, 49, 56, 62], 33) := by decide +kernel
theorem dX5_of_56 : decode cX5_of 56 = .ok (.aload_n 0, 1) := by decide +kernel
theorem dX5_of_57 : decode cX5_of 57 = .ok (.getfield 7, 3) := by decide +kernel
theorem dX5_of_60 : decode cX5_of 60 = .ok (.iconst 5, 1) := by decide +kernel
theorem dX5_of_61 : decode cX5_of 61 = .ok (.iload_n 1, 1) := by decide +kernel
theorem dX5_of_62 : decode cX5_of 62 = .ok (.iadd, 1) := by decide +kernel
theorem dX5_of_63 : decode cX5_of 63 = .ok (.iaload, 1) := by decide +kernel
theorem dX5_of_64 : decode cX5_of 64 = .ok (.ireturn, 1) := by decide +kernel
theorem dX5_of_65 : decode cX5_of 65 = .ok (.aload_n 0, 1) := by decide +kernel
theorem dX5_of_66 : decode cX5_of 66 = .ok (.iload_n 1, 1) := by decide +kernel
theorem dX5_of_67 : decode cX5_of 67 = .ok (.iconst 0, 1) := by decide +kernel
theorem dX5_of_68 : decode cX5_of 68 = .ok (.invokevirtual 86, 3) := by decide +kernel
theorem dX5_of_71 : decode cX5_of 71 = .ok (.ireturn, 1) := by decide +kernel
theorem dX5_of_72 : decode cX5_of 72 = .ok (.aload_n 0, 1) := by decide +kernel
theorem dX5_of_73 : decode cX5_of 73 = .ok (.iload_n 1, 1) := by decide +kernel
theorem dX5_of_74 : decode cX5_of 74 = .ok (.iconst 1, 1) := by decide +kernel
theorem dX5_of_75 : decode cX5_of 75 = .ok (.invokevirtual 86, 3) := by decide +kernel
theorem dX5_of_78 : decode cX5_of 78 = .ok (.ireturn, 1) := by decide +kernel
theorem dX5_of_79 : decode cX5_of 79 = .ok (.aload_n 0, 1) := by decide +kernel
theorem dX5_of_80 : decode cX5_of 80 = .ok (.iload_n 1, 1) := by decide +kernel
theorem dX5_of_81 : decode cX5_of 81 = .ok (.invokevirtual 90, 3) := by decide +kernel
theorem dX5_of_84 : decode cX5_of 84 = .ok (.ireturn, 1) := by decide +kernel
theorem dX5_of_85 : decode cX5_of 85 = .ok (.aload_n 0, 1) := by decide +kernel
theorem dX5_of_86 : decode cX5_of 86 = .ok (.iload_n 1, 1) := by decide +kernel
theorem dX5_of_87 : decode cX5_of 87 = .ok (.iconst 1, 1) := by decide +kernel
theorem dX5_of_88 : decode cX5_of 88 = .ok (.invokevirtual 93, 3) := by decide +kernel
theorem dX5_of_91 : decode cX5_of 91 = .ok (.ireturn, 1) := by decide +kernel
theorem dX5_of_92 : decode cX5_of 92 = .ok (.aload_n 0, 1) := by decide +kernel
theorem dX5_of_93 : decode cX5_of 93 = .ok (.iload_n 1, 1) := by decide +kernel
theorem dX5_of_94 : decode cX5_of 94 = .ok (.aload_n 0, 1) := by decide +kernel
theorem dX5_of_95 : decode cX5_of 95 = .ok (.getfield 7, 3) := by decide +kernel
theorem dX5_of_98 : decode cX5_of 98 = .ok (.iconst 0, 1) := by decide +kernel
theorem dX5_of_99 : decode cX5_of 99 = .ok (.iaload, 1) := by decide +kernel
theorem dX5_of_100 : decode cX5_of 100 = .ok (.iconst 1, 1) := by decide +kernel
theorem dX5_of_101 : decode cX5_of 101 = .ok (.isub, 1) := by decide +kernel
theorem dX5_of_102 : decode cX5_of 102 = .ok (.invokevirtual 93, 3) := by decide +kernel
theorem dX5_of_105 : decode cX5_of 105 = .ok (.ireturn, 1) := by decide +kernel
set_option maxRecDepth 20000 in
theorem ggX5_strength_X5_isPerson : GoodIn wsX5_strength wsX5_isPerson := goodIn_r _ [5, 6, 7, 8, 4, 9, 22, 23, 24, 25, 26, 27, 28, 29, 30, 31, 32, 33, 34, 35, 36, 37, 38] (by decide +kernel) (by decide +kernel)
set_option maxRecDepth 20000 in
theorem gX5_strength_X5_isPerson : GoodIn wsX5_strength (wsV RX5 81 RX5 yX5_isPerson wsX5_isPerson) := goodIn_app (goodIn_of _ (by decide +kernel)) ggX5_strength_X5_isPerson
set_option maxRecDepth 20000 in
theorem ggX5_strength_X5_isThing : GoodIn wsX5_strength wsX5_isThing := goodIn_r _ [12, 13, 7, 8, 4, 9] (by decide +kernel) (by decide +kernel)
set_option maxRecDepth 20000 in
theorem gX5_strength_X5_isThing : GoodIn wsX5_strength (va_wsS RX5 96 yX5_isThing wsX5_isThing) := goodIn_app (goodIn_of _ (by decide +kernel)) ggX5_strength_X5_isThing
set_option maxRecDepth 20000 in
theorem ggX5_strength_X5_knows : GoodIn wsX5_strength wsX5_knows := goodIn_r _ [17, 18, 19, 20, 4, 21, 6, 22, 23, 24, 25, 26, 27, 28, 29, 30, 31, 32, 33, 34, 35, 36, 37, 38] (by decide +kernel) (by decide +kernel)
set_option maxRecDepth 20000 in
theorem gX5_strength_X5_knows : GoodIn wsX5_strength (wsV RX5 56 RX5 yX5_knows wsX5_knows) := goodIn_app (goodIn_of _ (by decide +kernel)) ggX5_strength_X5_knows
set_option maxRecDepth 20000 in
theorem ggX5_strength_X5_sealOf : GoodIn wsX5_strength wsX5_sealOf := goodIn_r _ [21, 6, 22, 23, 24, 25, 26, 27, 28, 29, 30, 31, 32, 33, 34, 35, 36, 37, 38] (by decide +kernel) (by decide +kernel)
set_option maxRecDepth 20000 in
theorem gX5_strength_X5_sealOf : GoodIn wsX5_strength (wsV RX5 52 RX5 yX5_sealOf wsX5_sealOf) := goodIn_app (goodIn_of _ (by decide +kernel)) ggX5_strength_X5_sealOf
theorem dX5_strength_0 : decode cX5_strength 0 = .ok (.aload_n 0, 1) := by decide +kernel
theorem dX5_strength_1 : decode cX5_strength 1 = .ok (.iload_n 1, 1) := by decide +kernel
theorem dX5_strength_2 : decode cX5_strength 2 = .ok (.invokevirtual 81, 3) := by decide +kernel
theorem dX5_strength_5 : decode cX5_strength 5 = .ok (.ifCond .eq 10, 3) := by decide +kernel
theorem dX5_strength_8 : decode cX5_strength 8 = .ok (.iload_n 2, 1) := by decide +kernel
theorem dX5_strength_9 : decode cX5_strength 9 = .ok (.invokestatic 96, 3) := by decide +kernel
theorem dX5_strength_12 : decode cX5_strength 12 = .ok (.ifCond .ne 5, 3) := by decide +kernel
theorem dX5_strength_15 : decode cX5_strength 15 = .ok (.iconst (-1), 1) := by decide +kernel
theorem dX5_strength_16 : decode cX5_strength 16 = .ok (.ireturn, 1) := by decide +kernel
theorem dX5_strength_17 : decode cX5_strength 17 = .ok (.aload_n 0, 1) := by decide +kernel
theorem dX5_strength_18 : decode cX5_strength 18 = .ok (.iload_n 1, 1) := by decide +kernel
theorem dX5_strength_19 : decode cX5_strength 19 = .ok (.iload_n 2, 1) := by decide +kernel
theorem dX5_strength_20 : decode cX5_strength 20 = .ok (.invokevirtual 56, 3) := by decide +kernel
theorem dX5_strength_23 : decode cX5_strength 23 = .ok (.ifCond .eq 12, 3) := by decide +kernel
theorem dX5_strength_26 : decode cX5_strength 26 = .ok (.aload_n 0, 1) := by decide +kernel
theorem dX5_strength_27 : decode cX5_strength 27 = .ok (.iload_n 1, 1) := by decide +kernel
theorem dX5_strength_28 : decode cX5_strength 28 = .ok (.iload_n 2, 1) := by decide +kernel
theorem dX5_strength_29 : decode cX5_strength 29 = .ok (.invokevirtual 52, 3) := by decide +kernel
theorem dX5_strength_32 : decode cX5_strength 32 = .ok (.goto 5, 3) := by decide +kernel
theorem dX5_strength_35 : decode cX5_strength 35 = .ok (.bipush (-4), 2) := by decide +kernel
theorem dX5_strength_37 : decode cX5_strength 37 = .ok (.ireturn, 1) := by decide +kernel
set_option maxRecDepth 20000 in
theorem ggX5_known_X5_isThing : GoodIn wsX5_known wsX5_isThing := goodIn_r _ [4, 5, 6, 7, 3, 8] (by decide +kernel) (by decide +kernel)
set_option maxRecDepth 20000 in
theorem gX5_known_X5_isThing : GoodIn wsX5_known (va_wsS RX5 96 yX5_isThing wsX5_isThing) := goodIn_app (goodIn_of _ (by decide +kernel)) ggX5_known_X5_isThing
set_option maxRecDepth 20000 in
theorem ggX5_known_X5_who : GoodIn wsX5_known wsX5_who := goodIn_r _ [12, 13, 14, 15, 16, 3, 17, 18, 19, 20, 21, 22, 23, 24, 25, 26, 27, 28, 29, 30, 31, 32, 33, 34, 35, 36, 37, 38] (by decide +kernel) (by decide +kernel)
set_option maxRecDepth 20000 in
theorem gX5_known_X5_who : GoodIn wsX5_known (wsV RX5 64 RX5 yX5_who wsX5_who) := goodIn_app (goodIn_of _ (by decide +kernel)) ggX5_known_X5_who
theorem dX5_known_0 : decode cX5_known 0 = .ok (.iload_n 1, 1) := by decide +kernel
theorem dX5_known_1 : decode cX5_known 1 = .ok (.invokestatic 96, 3) := by decide +kernel
theorem dX5_known_4 : decode cX5_known 4 = .ok (.ifCond .eq 11, 3) := by decide +kernel
theorem dX5_known_7 : decode cX5_known 7 = .ok (.aload_n 0, 1) := by decide +kernel
theorem dX5_known_8 : decode cX5_known 8 = .ok (.iload_n 1, 1) := by decide +kernel
theorem dX5_known_9 : decode cX5_known 9 = .ok (.invokevirtual 64, 3) := by decide +kernel
theorem dX5_known_12 : decode cX5_known 12 = .ok (.goto 4, 3) := by decide +kernel
theorem dX5_known_15 : decode cX5_known 15 = .ok (.iconst (-1), 1) := by decide +kernel
theorem dX5_known_16 : decode cX5_known 16 = .ok (.ireturn, 1) := by decide +kernel
set_option maxRecDepth 20000 in
theorem ggX5_seats_X5_isPerson : GoodIn wsX5_seats wsX5_isPerson := goodIn_r _ [6, 1, 7, 8, 5, 9, 18, 19, 20, 21, 22, 23, 24, 25, 26, 27, 28, 29, 30, 31, 32, 33, 34] (by decide +kernel) (by decide +kernel)
set_option maxRecDepth 20000 in
theorem gX5_seats_X5_isPerson : GoodIn wsX5_seats (wsV RX5 81 RX5 yX5_isPerson wsX5_isPerson) := goodIn_app (goodIn_of _ (by decide +kernel)) ggX5_seats_X5_isPerson
set_option maxRecDepth 20000 in
theorem ggX5_seats_X5_placeOf : GoodIn wsX5_seats wsX5_placeOf := goodIn_r _ [13, 1, 18, 19, 20, 21, 22, 23, 24, 25, 26, 27, 28, 29, 30, 31, 32, 33, 34] (by decide +kernel) (by decide +kernel)
set_option maxRecDepth 20000 in
theorem gX5_seats_X5_placeOf : GoodIn wsX5_seats (wsV RX5 60 RX5 yX5_placeOf wsX5_placeOf) := goodIn_app (goodIn_of _ (by decide +kernel)) ggX5_seats_X5_placeOf
set_option maxRecDepth 20000 in
theorem ggX5_seats_X5_beside : GoodIn wsX5_seats wsX5_beside := goodIn_r _ [17, 1, 10, 11, 12, 5, 13, 18, 19, 20, 21, 22, 23, 24, 25, 26, 27, 28, 29, 30, 31, 32, 33, 34] (by decide +kernel) (by decide +kernel)
set_option maxRecDepth 20000 in
theorem gX5_seats_X5_beside : GoodIn wsX5_seats (wsV RX5 93 RX5 yX5_beside wsX5_beside) := goodIn_app (goodIn_of _ (by decide +kernel)) ggX5_seats_X5_beside
theorem dX5_seats_0 : decode cX5_seats 0 = .ok (.aload_n 0, 1) := by decide +kernel
theorem dX5_seats_1 : decode cX5_seats 1 = .ok (.iload_n 1, 1) := by decide +kernel
theorem dX5_seats_2 : decode cX5_seats 2 = .ok (.invokevirtual 81, 3) := by decide +kernel
theorem dX5_seats_5 : decode cX5_seats 5 = .ok (.ifCond .eq 16, 3) := by decide +kernel
theorem dX5_seats_8 : decode cX5_seats 8 = .ok (.aload_n 0, 1) := by decide +kernel
theorem dX5_seats_9 : decode cX5_seats 9 = .ok (.iload_n 2, 1) := by decide +kernel
theorem dX5_seats_10 : decode cX5_seats 10 = .ok (.invokevirtual 81, 3) := by decide +kernel
theorem dX5_seats_13 : decode cX5_seats 13 = .ok (.ifCond .eq 8, 3) := by decide +kernel
theorem dX5_seats_16 : decode cX5_seats 16 = .ok (.iload_n 1, 1) := by decide +kernel
theorem dX5_seats_17 : decode cX5_seats 17 = .ok (.iload_n 2, 1) := by decide +kernel
theorem dX5_seats_18 : decode cX5_seats 18 = .ok (.if_icmp .ne 5, 3) := by decide +kernel
theorem dX5_seats_21 : decode cX5_seats 21 = .ok (.iconst (-1), 1) := by decide +kernel
theorem dX5_seats_22 : decode cX5_seats 22 = .ok (.ireturn, 1) := by decide +kernel
theorem dX5_seats_23 : decode cX5_seats 23 = .ok (.aload_n 0, 1) := by decide +kernel
theorem dX5_seats_24 : decode cX5_seats 24 = .ok (.iload_n 1, 1) := by decide +kernel
theorem dX5_seats_25 : decode cX5_seats 25 = .ok (.invokevirtual 60, 3) := by decide +kernel
theorem dX5_seats_28 : decode cX5_seats 28 = .ok (.istore_n 3, 1) := by decide +kernel
theorem dX5_seats_29 : decode cX5_seats 29 = .ok (.aload_n 0, 1) := by decide +kernel
theorem dX5_seats_30 : decode cX5_seats 30 = .ok (.iload_n 2, 1) := by decide +kernel
theorem dX5_seats_31 : decode cX5_seats 31 = .ok (.invokevirtual 60, 3) := by decide +kernel
theorem dX5_seats_34 : decode cX5_seats 34 = .ok (.istore 4, 2) := by decide +kernel
theorem dX5_seats_36 : decode cX5_seats 36 = .ok (.aload_n 0, 1) := by decide +kernel
theorem dX5_seats_37 : decode cX5_seats 37 = .ok (.getfield 7, 3) := by decide +kernel
theorem dX5_seats_40 : decode cX5_seats 40 = .ok (.bipush 11, 2) := by decide +kernel
theorem dX5_seats_42 : decode cX5_seats 42 = .ok (.iload_n 3, 1) := by decide +kernel
theorem dX5_seats_43 : decode cX5_seats 43 = .ok (.iadd, 1) := by decide +kernel
theorem dX5_seats_44 : decode cX5_seats 44 = .ok (.iload_n 2, 1) := by decide +kernel
theorem dX5_seats_45 : decode cX5_seats 45 = .ok (.iastore, 1) := by decide +kernel
theorem dX5_seats_46 : decode cX5_seats 46 = .ok (.aload_n 0, 1) := by decide +kernel
theorem dX5_seats_47 : decode cX5_seats 47 = .ok (.getfield 7, 3) := by decide +kernel
theorem dX5_seats_50 : decode cX5_seats 50 = .ok (.bipush 11, 2) := by decide +kernel
theorem dX5_seats_52 : decode cX5_seats 52 = .ok (.iload 4, 2) := by decide +kernel
theorem dX5_seats_54 : decode cX5_seats 54 = .ok (.iadd, 1) := by decide +kernel
theorem dX5_seats_55 : decode cX5_seats 55 = .ok (.iload_n 1, 1) := by decide +kernel
theorem dX5_seats_56 : decode cX5_seats 56 = .ok (.iastore, 1) := by decide +kernel
theorem dX5_seats_57 : decode cX5_seats 57 = .ok (.aload_n 0, 1) := by decide +kernel
theorem dX5_seats_58 : decode cX5_seats 58 = .ok (.iload_n 1, 1) := by decide +kernel
theorem dX5_seats_59 : decode cX5_seats 59 = .ok (.iconst 1, 1) := by decide +kernel
theorem dX5_seats_60 : decode cX5_seats 60 = .ok (.invokevirtual 93, 3) := by decide +kernel
theorem dX5_seats_63 : decode cX5_seats 63 = .ok (.ireturn, 1) := by decide +kernel
set_option maxRecDepth 20000 in
theorem ggX5_rule_X5_in : GoodIn wsX5_rule wsX5_in := goodIn_r _ [8] (by decide +kernel) (by decide +kernel)
set_option maxRecDepth 20000 in
theorem gX5_rule_X5_in : GoodIn wsX5_rule (va_wsS RX5 44 yX5_in wsX5_in) := goodIn_app (goodIn_of _ (by decide +kernel)) ggX5_rule_X5_in
theorem dX5_rule_0 : decode cX5_rule 0 = .ok (.iload_n 1, 1) := by decide +kernel
theorem dX5_rule_1 : decode cX5_rule 1 = .ok (.ifCond .ne 18, 3) := by decide +kernel
theorem dX5_rule_4 : decode cX5_rule 4 = .ok (.iload_n 2, 1) := by decide +kernel
theorem dX5_rule_5 : decode cX5_rule 5 = .ok (.i2l, 1) := by decide +kernel
theorem dX5_rule_6 : decode cX5_rule 6 = .ok (.lconst 1, 1) := by decide +kernel
theorem dX5_rule_7 : decode cX5_rule 7 = .ok (.ldc2_w 50, 3) := by decide +kernel
theorem dX5_rule_10 : decode cX5_rule 10 = .ok (.invokestatic 44, 3) := by decide +kernel
theorem dX5_rule_13 : decode cX5_rule 13 = .ok (.ifCond .ne 27, 3) := by decide +kernel
theorem dX5_rule_16 : decode cX5_rule 16 = .ok (.goto 22, 3) := by decide +kernel
theorem dX5_rule_19 : decode cX5_rule 19 = .ok (.iload_n 1, 1) := by decide +kernel
theorem dX5_rule_20 : decode cX5_rule 20 = .ok (.iconst 1, 1) := by decide +kernel
theorem dX5_rule_21 : decode cX5_rule 21 = .ok (.if_icmp .ne 17, 3) := by decide +kernel
theorem dX5_rule_24 : decode cX5_rule 24 = .ok (.iload_n 2, 1) := by decide +kernel
theorem dX5_rule_25 : decode cX5_rule 25 = .ok (.i2l, 1) := by decide +kernel
theorem dX5_rule_26 : decode cX5_rule 26 = .ok (.ldc2_w 99, 3) := by decide +kernel
theorem dX5_rule_29 : decode cX5_rule 29 = .ok (.ldc2_w 101, 3) := by decide +kernel
theorem dX5_rule_32 : decode cX5_rule 32 = .ok (.invokestatic 44, 3) := by decide +kernel
theorem dX5_rule_35 : decode cX5_rule 35 = .ok (.ifCond .ne 5, 3) := by decide +kernel
theorem dX5_rule_38 : decode cX5_rule 38 = .ok (.iconst (-1), 1) := by decide +kernel
theorem dX5_rule_39 : decode cX5_rule 39 = .ok (.ireturn, 1) := by decide +kernel
theorem dX5_rule_40 : decode cX5_rule 40 = .ok (.aload_n 0, 1) := by decide +kernel
theorem dX5_rule_41 : decode cX5_rule 41 = .ok (.getfield 7, 3) := by decide +kernel
theorem dX5_rule_44 : decode cX5_rule 44 = .ok (.iconst 2, 1) := by decide +kernel
theorem dX5_rule_45 : decode cX5_rule 45 = .ok (.iload_n 1, 1) := by decide +kernel
theorem dX5_rule_46 : decode cX5_rule 46 = .ok (.iadd, 1) := by decide +kernel
theorem dX5_rule_47 : decode cX5_rule 47 = .ok (.iaload, 1) := by decide +kernel
theorem dX5_rule_48 : decode cX5_rule 48 = .ok (.istore_n 3, 1) := by decide +kernel
theorem dX5_rule_49 : decode cX5_rule 49 = .ok (.aload_n 0, 1) := by decide +kernel
theorem dX5_rule_50 : decode cX5_rule 50 = .ok (.getfield 7, 3) := by decide +kernel
theorem dX5_rule_53 : decode cX5_rule 53 = .ok (.iconst 2, 1) := by decide +kernel
theorem dX5_rule_54 : decode cX5_rule 54 = .ok (.iload_n 1, 1) := by decide +kernel
theorem dX5_rule_55 : decode cX5_rule 55 = .ok (.iadd, 1) := by decide +kernel
theorem dX5_rule_56 : decode cX5_rule 56 = .ok (.iload_n 2, 1) := by decide +kernel
theorem dX5_rule_57 : decode cX5_rule 57 = .ok (.iastore, 1) := by decide +kernel
theorem dX5_rule_58 : decode cX5_rule 58 = .ok (.iload_n 3, 1) := by decide +kernel
theorem dX5_rule_59 : decode cX5_rule 59 = .ok (.ireturn, 1) := by decide +kernel
set_option maxRecDepth 20000 in
theorem ggX5_count_X5_times : GoodIn wsX5_count wsX5_times := goodIn_r _ [7, 1, 8, 9, 10, 6, 11, 12, 13, 14, 15, 32, 33, 34, 35, 36, 37, 38, 39, 40, 41, 42, 43, 44, 45, 46, 47, 48] (by decide +kernel) (by decide +kernel)
set_option maxRecDepth 20000 in
theorem gX5_count_X5_times : GoodIn wsX5_count (wsV RX5 103 RX5 yX5_times wsX5_times) := goodIn_app (goodIn_of _ (by decide +kernel)) ggX5_count_X5_times
set_option maxRecDepth 20000 in
theorem ggX5_count_X5_openOnes : GoodIn wsX5_count wsX5_openOnes := goodIn_r _ [19, 1, 12, 13, 14, 6, 15, 32, 33, 34, 35, 36, 37, 38, 39, 40, 41, 42, 43, 44, 45, 46, 47, 48] (by decide +kernel) (by decide +kernel)
set_option maxRecDepth 20000 in
theorem gX5_count_X5_openOnes : GoodIn wsX5_count (wsV RX5 107 RX5 yX5_openOnes wsX5_openOnes) := goodIn_app (goodIn_of _ (by decide +kernel)) ggX5_count_X5_openOnes
set_option maxRecDepth 20000 in
theorem ggX5_count_X5_outOnes : GoodIn wsX5_count wsX5_outOnes := goodIn_r _ [23, 24, 25, 26, 6, 27, 1, 28, 29, 30, 31, 8, 9, 10, 11, 12, 13, 14, 15, 32, 33, 34, 35, 36, 37, 38, 39, 40, 41, 42, 43, 44, 45, 46, 47, 48] (by decide +kernel) (by decide +kernel)
set_option maxRecDepth 20000 in
theorem gX5_count_X5_outOnes : GoodIn wsX5_count (wsV RX5 110 RX5 yX5_outOnes wsX5_outOnes) := goodIn_app (goodIn_of _ (by decide +kernel)) ggX5_count_X5_outOnes
theorem dX5_count_0 : decode cX5_count 0 = .ok (.iload_n 1, 1) := by decide +kernel
theorem dX5_count_1 : decode cX5_count 1 = .ok (.tableswitch 99 0 8 #[51, 51, 51, 51, 58, 63, 68, 73, 94], 51) := by decide +kernel
theorem dX5_count_52 : decode cX5_count 52 = .ok (.aload_n 0, 1) := by decide +kernel
theorem dX5_count_53 : decode cX5_count 53 = .ok (.getfield 7, 3) := by decide +kernel
theorem dX5_count_56 : decode cX5_count 56 = .ok (.iload_n 1, 1) := by decide +kernel
theorem dX5_count_57 : decode cX5_count 57 = .ok (.iaload, 1) := by decide +kernel
theorem dX5_count_58 : decode cX5_count 58 = .ok (.ireturn, 1) := by decide +kernel
theorem dX5_count_59 : decode cX5_count 59 = .ok (.aload_n 0, 1) := by decide +kernel
theorem dX5_count_60 : decode cX5_count 60 = .ok (.invokevirtual 103, 3) := by decide +kernel
theorem dX5_count_63 : decode cX5_count 63 = .ok (.ireturn, 1) := by decide +kernel
theorem dX5_count_64 : decode cX5_count 64 = .ok (.aload_n 0, 1) := by decide +kernel
theorem dX5_count_65 : decode cX5_count 65 = .ok (.invokevirtual 107, 3) := by decide +kernel
theorem dX5_count_68 : decode cX5_count 68 = .ok (.ireturn, 1) := by decide +kernel
theorem dX5_count_69 : decode cX5_count 69 = .ok (.aload_n 0, 1) := by decide +kernel
theorem dX5_count_70 : decode cX5_count 70 = .ok (.invokevirtual 110, 3) := by decide +kernel
theorem dX5_count_73 : decode cX5_count 73 = .ok (.ireturn, 1) := by decide +kernel
theorem dX5_count_74 : decode cX5_count 74 = .ok (.aload_n 0, 1) := by decide +kernel
theorem dX5_count_75 : decode cX5_count 75 = .ok (.getfield 7, 3) := by decide +kernel
theorem dX5_count_78 : decode cX5_count 78 = .ok (.iconst 3, 1) := by decide +kernel
theorem dX5_count_79 : decode cX5_count 79 = .ok (.iaload, 1) := by decide +kernel
theorem dX5_count_80 : decode cX5_count 80 = .ok (.aload_n 0, 1) := by decide +kernel
theorem dX5_count_81 : decode cX5_count 81 = .ok (.getfield 7, 3) := by decide +kernel
theorem dX5_count_84 : decode cX5_count 84 = .ok (.iconst 1, 1) := by decide +kernel
theorem dX5_count_85 : decode cX5_count 85 = .ok (.iaload, 1) := by decide +kernel
theorem dX5_count_86 : decode cX5_count 86 = .ok (.aload_n 0, 1) := by decide +kernel
theorem dX5_count_87 : decode cX5_count 87 = .ok (.getfield 7, 3) := by decide +kernel
theorem dX5_count_90 : decode cX5_count 90 = .ok (.iconst 3, 1) := by decide +kernel
theorem dX5_count_91 : decode cX5_count 91 = .ok (.iaload, 1) := by decide +kernel
theorem dX5_count_92 : decode cX5_count 92 = .ok (.irem, 1) := by decide +kernel
theorem dX5_count_93 : decode cX5_count 93 = .ok (.isub, 1) := by decide +kernel
theorem dX5_count_94 : decode cX5_count 94 = .ok (.ireturn, 1) := by decide +kernel
theorem dX5_count_95 : decode cX5_count 95 = .ok (.aload_n 0, 1) := by decide +kernel
theorem dX5_count_96 : decode cX5_count 96 = .ok (.getfield 77, 3) := by decide +kernel
theorem dX5_count_99 : decode cX5_count 99 = .ok (.ireturn, 1) := by decide +kernel
theorem dX5_count_100 : decode cX5_count 100 = .ok (.iconst (-1), 1) := by decide +kernel
theorem dX5_count_101 : decode cX5_count 101 = .ok (.ireturn, 1) := by decide +kernel
set_option maxRecDepth 20000 in
theorem ggX5_type_X5_in : GoodIn wsX5_type wsX5_in := goodIn_r _ [8] (by decide +kernel) (by decide +kernel)
set_option maxRecDepth 20000 in
theorem gX5_type_X5_in : GoodIn wsX5_type (va_wsS RX5 44 yX5_in wsX5_in) := goodIn_app (goodIn_of _ (by decide +kernel)) ggX5_type_X5_in
theorem dX5_type_0 : decode cX5_type 0 = .ok (.iload_n 1, 1) := by decide +kernel
theorem dX5_type_1 : decode cX5_type 1 = .ok (.i2l, 1) := by decide +kernel
theorem dX5_type_2 : decode cX5_type 2 = .ok (.ldc2_w 113, 3) := by decide +kernel
theorem dX5_type_5 : decode cX5_type 5 = .ok (.ldc2_w 115, 3) := by decide +kernel
theorem dX5_type_8 : decode cX5_type 8 = .ok (.invokestatic 44, 3) := by decide +kernel
theorem dX5_type_11 : decode cX5_type 11 = .ok (.ifCond .ne 5, 3) := by decide +kernel
theorem dX5_type_14 : decode cX5_type 14 = .ok (.iconst (-1), 1) := by decide +kernel
theorem dX5_type_15 : decode cX5_type 15 = .ok (.ireturn, 1) := by decide +kernel
theorem dX5_type_16 : decode cX5_type 16 = .ok (.aload_n 0, 1) := by decide +kernel
theorem dX5_type_17 : decode cX5_type 17 = .ok (.getfield 117, 3) := by decide +kernel
theorem dX5_type_20 : decode cX5_type 20 = .ok (.bipush 70, 2) := by decide +kernel
theorem dX5_type_22 : decode cX5_type 22 = .ok (.if_icmp .ne 6, 3) := by decide +kernel
theorem dX5_type_25 : decode cX5_type 25 = .ok (.bipush (-3), 2) := by decide +kernel
theorem dX5_type_27 : decode cX5_type 27 = .ok (.ireturn, 1) := by decide +kernel
theorem dX5_type_28 : decode cX5_type 28 = .ok (.aload_n 0, 1) := by decide +kernel
theorem dX5_type_29 : decode cX5_type 29 = .ok (.getfield 13, 3) := by decide +kernel
theorem dX5_type_32 : decode cX5_type 32 = .ok (.aload_n 0, 1) := by decide +kernel
theorem dX5_type_33 : decode cX5_type 33 = .ok (.getfield 117, 3) := by decide +kernel
theorem dX5_type_36 : decode cX5_type 36 = .ok (.iload_n 1, 1) := by decide +kernel
theorem dX5_type_37 : decode cX5_type 37 = .ok (.iastore, 1) := by decide +kernel
theorem dX5_type_38 : decode cX5_type 38 = .ok (.aload_n 0, 1) := by decide +kernel
theorem dX5_type_39 : decode cX5_type 39 = .ok (.dup, 1) := by decide +kernel
theorem dX5_type_40 : decode cX5_type 40 = .ok (.getfield 117, 3) := by decide +kernel
theorem dX5_type_43 : decode cX5_type 43 = .ok (.iconst 1, 1) := by decide +kernel
theorem dX5_type_44 : decode cX5_type 44 = .ok (.iadd, 1) := by decide +kernel
theorem dX5_type_45 : decode cX5_type 45 = .ok (.putfield 117, 3) := by decide +kernel
theorem dX5_type_48 : decode cX5_type 48 = .ok (.aload_n 0, 1) := by decide +kernel
theorem dX5_type_49 : decode cX5_type 49 = .ok (.getfield 117, 3) := by decide +kernel
theorem dX5_type_52 : decode cX5_type 52 = .ok (.ireturn, 1) := by decide +kernel
theorem dX5_here_0 : decode cX5_here 0 = .ok (.aload_n 0, 1) := by decide +kernel
theorem dX5_here_1 : decode cX5_here 1 = .ok (.getfield 120, 3) := by decide +kernel
theorem dX5_here_4 : decode cX5_here 4 = .ok (.aload_n 0, 1) := by decide +kernel
theorem dX5_here_5 : decode cX5_here 5 = .ok (.getfield 117, 3) := by decide +kernel
theorem dX5_here_8 : decode cX5_here 8 = .ok (.if_icmp .ge 30, 3) := by decide +kernel
theorem dX5_here_11 : decode cX5_here 11 = .ok (.aload_n 0, 1) := by decide +kernel
theorem dX5_here_12 : decode cX5_here 12 = .ok (.getfield 13, 3) := by decide +kernel
theorem dX5_here_15 : decode cX5_here 15 = .ok (.aload_n 0, 1) := by decide +kernel
theorem dX5_here_16 : decode cX5_here 16 = .ok (.getfield 120, 3) := by decide +kernel
theorem dX5_here_19 : decode cX5_here 19 = .ok (.iaload, 1) := by decide +kernel
theorem dX5_here_20 : decode cX5_here 20 = .ok (.bipush 32, 2) := by decide +kernel
theorem dX5_here_22 : decode cX5_here 22 = .ok (.if_icmp .ne 16, 3) := by decide +kernel
theorem dX5_here_25 : decode cX5_here 25 = .ok (.aload_n 0, 1) := by decide +kernel
theorem dX5_here_26 : decode cX5_here 26 = .ok (.dup, 1) := by decide +kernel
theorem dX5_here_27 : decode cX5_here 27 = .ok (.getfield 120, 3) := by decide +kernel
theorem dX5_here_30 : decode cX5_here 30 = .ok (.iconst 1, 1) := by decide +kernel
theorem dX5_here_31 : decode cX5_here 31 = .ok (.iadd, 1) := by decide +kernel
theorem dX5_here_32 : decode cX5_here 32 = .ok (.putfield 120, 3) := by decide +kernel
theorem dX5_here_35 : decode cX5_here 35 = .ok (.goto (-35), 3) := by decide +kernel
theorem dX5_here_38 : decode cX5_here 38 = .ok (.aload_n 0, 1) := by decide +kernel
theorem dX5_here_39 : decode cX5_here 39 = .ok (.getfield 120, 3) := by decide +kernel
theorem dX5_here_42 : decode cX5_here 42 = .ok (.aload_n 0, 1) := by decide +kernel
theorem dX5_here_43 : decode cX5_here 43 = .ok (.getfield 117, 3) := by decide +kernel
theorem dX5_here_46 : decode cX5_here 46 = .ok (.if_icmp .ge 15, 3) := by decide +kernel
theorem dX5_here_49 : decode cX5_here 49 = .ok (.aload_n 0, 1) := by decide +kernel
theorem dX5_here_50 : decode cX5_here 50 = .ok (.getfield 13, 3) := by decide +kernel
theorem dX5_here_53 : decode cX5_here 53 = .ok (.aload_n 0, 1) := by decide +kernel
theorem dX5_here_54 : decode cX5_here 54 = .ok (.getfield 120, 3) := by decide +kernel
theorem dX5_here_57 : decode cX5_here 57 = .ok (.iaload, 1) := by decide +kernel
theorem dX5_here_58 : decode cX5_here 58 = .ok (.goto 4, 3) := by decide +kernel
theorem dX5_here_61 : decode cX5_here 61 = .ok (.iconst 0, 1) := by decide +kernel
theorem dX5_here_62 : decode cX5_here 62 = .ok (.ireturn, 1) := by decide +kernel
theorem dX5_must_0 : decode cX5_must 0 = .ok (.aload_n 0, 1) := by decide +kernel
theorem dX5_must_1 : decode cX5_must 1 = .ok (.aload_n 0, 1) := by decide +kernel
theorem dX5_must_2 : decode cX5_must 2 = .ok (.getfield 123, 3) := by decide +kernel
theorem dX5_must_5 : decode cX5_must 5 = .ok (.ifCond .ne 7, 3) := by decide +kernel
theorem dX5_must_8 : decode cX5_must 8 = .ok (.iload_n 1, 1) := by decide +kernel
theorem dX5_must_9 : decode cX5_must 9 = .ok (.ifCond .ne 7, 3) := by decide +kernel
theorem dX5_must_12 : decode cX5_must 12 = .ok (.iconst 1, 1) := by decide +kernel
theorem dX5_must_13 : decode cX5_must 13 = .ok (.goto 4, 3) := by decide +kernel
theorem dX5_must_16 : decode cX5_must 16 = .ok (.iconst 0, 1) := by decide +kernel
theorem dX5_must_17 : decode cX5_must 17 = .ok (.putfield 123, 3) := by decide +kernel
theorem dX5_must_20 : decode cX5_must 20 = .ok (.aload_n 0, 1) := by decide +kernel
theorem dX5_must_21 : decode cX5_must 21 = .ok (.dup, 1) := by decide +kernel
theorem dX5_must_22 : decode cX5_must 22 = .ok (.getfield 120, 3) := by decide +kernel
theorem dX5_must_25 : decode cX5_must 25 = .ok (.aload_n 0, 1) := by decide +kernel
theorem dX5_must_26 : decode cX5_must 26 = .ok (.getfield 123, 3) := by decide +kernel
theorem dX5_must_29 : decode cX5_must 29 = .ok (.ifCond .eq 7, 3) := by decide +kernel
theorem dX5_must_32 : decode cX5_must 32 = .ok (.iconst 0, 1) := by decide +kernel
theorem dX5_must_33 : decode cX5_must 33 = .ok (.goto 4, 3) := by decide +kernel
theorem dX5_must_36 : decode cX5_must 36 = .ok (.iconst 1, 1) := by decide +kernel
theorem dX5_must_37 : decode cX5_must 37 = .ok (.iadd, 1) := by decide +kernel
theorem dX5_must_38 : decode cX5_must 38 = .ok (.putfield 120, 3) := by decide +kernel
theorem dX5_must_41 : decode cX5_must 41 = .ok (.return_, 1) := by decide +kernel
set_option maxRecDepth 20000 in
theorem ggX5_number_X5_here : GoodIn wsX5_number wsX5_here := goodIn_r _ [11, 2, 5, 6, 15, 16, 17, 18, 19, 20, 21, 22, 23, 24, 25, 26, 27, 28, 29, 30, 31] (by decide +kernel) (by decide +kernel)
set_option maxRecDepth 20000 in
theorem gX5_number_X5_here : GoodIn wsX5_number (wsV RX5 127 RX5 yX5_here wsX5_here) := goodIn_app (goodIn_of _ (by decide +kernel)) ggX5_number_X5_here
set_option maxRecDepth 20000 in
theorem ggX5_number_X5_in : GoodIn wsX5_number wsX5_in := goodIn_r _ [14] (by decide +kernel) (by decide +kernel)
set_option maxRecDepth 20000 in
theorem gX5_number_X5_in : GoodIn wsX5_number (va_wsS RX5 44 yX5_in wsX5_in) := goodIn_app (goodIn_of _ (by decide +kernel)) ggX5_number_X5_in
theorem dX5_number_0 : decode cX5_number 0 = .ok (.aload_n 0, 1) := by decide +kernel
theorem dX5_number_1 : decode cX5_number 1 = .ok (.getfield 123, 3) := by decide +kernel
theorem dX5_number_4 : decode cX5_number 4 = .ok (.ifCond .eq 7, 3) := by decide +kernel
theorem dX5_number_7 : decode cX5_number 7 = .ok (.iconst 0, 1) := by decide +kernel
theorem dX5_number_8 : decode cX5_number 8 = .ok (.goto 7, 3) := by decide +kernel
theorem dX5_number_11 : decode cX5_number 11 = .ok (.aload_n 0, 1) := by decide +kernel
theorem dX5_number_12 : decode cX5_number 12 = .ok (.invokevirtual 127, 3) := by decide +kernel
theorem dX5_number_15 : decode cX5_number 15 = .ok (.istore 4, 2) := by decide +kernel
theorem dX5_number_17 : decode cX5_number 17 = .ok (.aload_n 0, 1) := by decide +kernel
theorem dX5_number_18 : decode cX5_number 18 = .ok (.getfield 120, 3) := by decide +kernel
theorem dX5_number_21 : decode cX5_number 21 = .ok (.istore 5, 2) := by decide +kernel
theorem dX5_number_23 : decode cX5_number 23 = .ok (.iconst 0, 1) := by decide +kernel
theorem dX5_number_24 : decode cX5_number 24 = .ok (.istore 6, 2) := by decide +kernel
theorem dX5_number_26 : decode cX5_number 26 = .ok (.aload_n 0, 1) := by decide +kernel
theorem dX5_number_27 : decode cX5_number 27 = .ok (.aload_n 0, 1) := by decide +kernel
theorem dX5_number_28 : decode cX5_number 28 = .ok (.getfield 123, 3) := by decide +kernel
theorem dX5_number_31 : decode cX5_number 31 = .ok (.ifCond .ne 18, 3) := by decide +kernel
theorem dX5_number_34 : decode cX5_number 34 = .ok (.iload 4, 2) := by decide +kernel
theorem dX5_number_36 : decode cX5_number 36 = .ok (.i2l, 1) := by decide +kernel
theorem dX5_number_37 : decode cX5_number 37 = .ok (.ldc2_w 130, 3) := by decide +kernel
theorem dX5_number_40 : decode cX5_number 40 = .ok (.ldc2_w 132, 3) := by decide +kernel
theorem dX5_number_43 : decode cX5_number 43 = .ok (.invokestatic 44, 3) := by decide +kernel
theorem dX5_number_46 : decode cX5_number 46 = .ok (.ifCond .ne 7, 3) := by decide +kernel
theorem dX5_number_49 : decode cX5_number 49 = .ok (.iconst 1, 1) := by decide +kernel
theorem dX5_number_50 : decode cX5_number 50 = .ok (.goto 4, 3) := by decide +kernel
theorem dX5_number_53 : decode cX5_number 53 = .ok (.iconst 0, 1) := by decide +kernel
theorem dX5_number_54 : decode cX5_number 54 = .ok (.putfield 123, 3) := by decide +kernel
theorem dX5_number_57 : decode cX5_number 57 = .ok (.aload_n 0, 1) := by decide +kernel
theorem dX5_number_58 : decode cX5_number 58 = .ok (.getfield 123, 3) := by decide +kernel
theorem dX5_number_61 : decode cX5_number 61 = .ok (.ifCond .ne 80, 3) := by decide +kernel
theorem dX5_number_64 : decode cX5_number 64 = .ok (.aload_n 0, 1) := by decide +kernel
theorem dX5_number_65 : decode cX5_number 65 = .ok (.getfield 120, 3) := by decide +kernel
theorem dX5_number_68 : decode cX5_number 68 = .ok (.aload_n 0, 1) := by decide +kernel
theorem dX5_number_69 : decode cX5_number 69 = .ok (.getfield 117, 3) := by decide +kernel
theorem dX5_number_72 : decode cX5_number 72 = .ok (.if_icmp .ge 69, 3) := by decide +kernel
theorem dX5_number_75 : decode cX5_number 75 = .ok (.aload_n 0, 1) := by decide +kernel
theorem dX5_number_76 : decode cX5_number 76 = .ok (.getfield 120, 3) := by decide +kernel
theorem dX5_number_79 : decode cX5_number 79 = .ok (.iload 5, 2) := by decide +kernel
theorem dX5_number_81 : decode cX5_number 81 = .ok (.isub, 1) := by decide +kernel
theorem dX5_number_82 : decode cX5_number 82 = .ok (.iload_n 3, 1) := by decide +kernel
theorem dX5_number_83 : decode cX5_number 83 = .ok (.if_icmp .ge 58, 3) := by decide +kernel
theorem dX5_number_86 : decode cX5_number 86 = .ok (.aload_n 0, 1) := by decide +kernel
theorem dX5_number_87 : decode cX5_number 87 = .ok (.getfield 13, 3) := by decide +kernel
theorem dX5_number_90 : decode cX5_number 90 = .ok (.aload_n 0, 1) := by decide +kernel
theorem dX5_number_91 : decode cX5_number 91 = .ok (.getfield 120, 3) := by decide +kernel
theorem dX5_number_94 : decode cX5_number 94 = .ok (.iaload, 1) := by decide +kernel
theorem dX5_number_95 : decode cX5_number 95 = .ok (.i2l, 1) := by decide +kernel
theorem dX5_number_96 : decode cX5_number 96 = .ok (.ldc2_w 130, 3) := by decide +kernel
theorem dX5_number_99 : decode cX5_number 99 = .ok (.ldc2_w 132, 3) := by decide +kernel
theorem dX5_number_102 : decode cX5_number 102 = .ok (.invokestatic 44, 3) := by decide +kernel
theorem dX5_number_105 : decode cX5_number 105 = .ok (.ifCond .eq 36, 3) := by decide +kernel
theorem dX5_number_108 : decode cX5_number 108 = .ok (.bipush 10, 2) := by decide +kernel
theorem dX5_number_110 : decode cX5_number 110 = .ok (.iload 6, 2) := by decide +kernel
theorem dX5_number_112 : decode cX5_number 112 = .ok (.imul, 1) := by decide +kernel
theorem dX5_number_113 : decode cX5_number 113 = .ok (.aload_n 0, 1) := by decide +kernel
theorem dX5_number_114 : decode cX5_number 114 = .ok (.getfield 13, 3) := by decide +kernel
theorem dX5_number_117 : decode cX5_number 117 = .ok (.aload_n 0, 1) := by decide +kernel
theorem dX5_number_118 : decode cX5_number 118 = .ok (.getfield 120, 3) := by decide +kernel
theorem dX5_number_121 : decode cX5_number 121 = .ok (.iaload, 1) := by decide +kernel
theorem dX5_number_122 : decode cX5_number 122 = .ok (.iadd, 1) := by decide +kernel
theorem dX5_number_123 : decode cX5_number 123 = .ok (.bipush 48, 2) := by decide +kernel
theorem dX5_number_125 : decode cX5_number 125 = .ok (.isub, 1) := by decide +kernel
theorem dX5_number_126 : decode cX5_number 126 = .ok (.istore 6, 2) := by decide +kernel
theorem dX5_number_128 : decode cX5_number 128 = .ok (.aload_n 0, 1) := by decide +kernel
theorem dX5_number_129 : decode cX5_number 129 = .ok (.dup, 1) := by decide +kernel
theorem dX5_number_130 : decode cX5_number 130 = .ok (.getfield 120, 3) := by decide +kernel
theorem dX5_number_133 : decode cX5_number 133 = .ok (.iconst 1, 1) := by decide +kernel
theorem dX5_number_134 : decode cX5_number 134 = .ok (.iadd, 1) := by decide +kernel
theorem dX5_number_135 : decode cX5_number 135 = .ok (.putfield 120, 3) := by decide +kernel
theorem dX5_number_138 : decode cX5_number 138 = .ok (.goto (-81), 3) := by decide +kernel
theorem dX5_number_141 : decode cX5_number 141 = .ok (.aload_n 0, 1) := by decide +kernel
theorem dX5_number_142 : decode cX5_number 142 = .ok (.getfield 123, 3) := by decide +kernel
theorem dX5_number_145 : decode cX5_number 145 = .ok (.ifCond .ne 27, 3) := by decide +kernel
theorem dX5_number_148 : decode cX5_number 148 = .ok (.iload 6, 2) := by decide +kernel
theorem dX5_number_150 : decode cX5_number 150 = .ok (.i2l, 1) := by decide +kernel
theorem dX5_number_151 : decode cX5_number 151 = .ok (.iload_n 1, 1) := by decide +kernel
theorem dX5_number_152 : decode cX5_number 152 = .ok (.i2l, 1) := by decide +kernel
theorem dX5_number_153 : decode cX5_number 153 = .ok (.iload_n 2, 1) := by decide +kernel
theorem dX5_number_154 : decode cX5_number 154 = .ok (.i2l, 1) := by decide +kernel
theorem dX5_number_155 : decode cX5_number 155 = .ok (.invokestatic 44, 3) := by decide +kernel
theorem dX5_number_158 : decode cX5_number 158 = .ok (.ifCond .ne 14, 3) := by decide +kernel
theorem dX5_number_161 : decode cX5_number 161 = .ok (.aload_n 0, 1) := by decide +kernel
theorem dX5_number_162 : decode cX5_number 162 = .ok (.iconst 1, 1) := by decide +kernel
theorem dX5_number_163 : decode cX5_number 163 = .ok (.putfield 123, 3) := by decide +kernel
theorem dX5_number_166 : decode cX5_number 166 = .ok (.aload_n 0, 1) := by decide +kernel
theorem dX5_number_167 : decode cX5_number 167 = .ok (.iload 5, 2) := by decide +kernel
theorem dX5_number_169 : decode cX5_number 169 = .ok (.putfield 120, 3) := by decide +kernel
theorem dX5_number_172 : decode cX5_number 172 = .ok (.iload 6, 2) := by decide +kernel
theorem dX5_number_174 : decode cX5_number 174 = .ok (.ireturn, 1) := by decide +kernel
set_option maxRecDepth 20000 in
theorem ggX5_readPersons_X5_here : GoodIn wsX5_readPersons wsX5_here := goodIn_r _ [8, 2, 9, 10, 22, 23, 24, 25, 26, 27, 28, 29, 30, 31, 32, 33, 34, 35, 36, 37, 38] (by decide +kernel) (by decide +kernel)
set_option maxRecDepth 20000 in
theorem gX5_readPersons_X5_here : GoodIn wsX5_readPersons (wsV RX5 127 RX5 yX5_here wsX5_here) := goodIn_app (goodIn_of _ (by decide +kernel)) ggX5_readPersons_X5_here
set_option maxRecDepth 20000 in
theorem ggX5_readPersons_X5_must : GoodIn wsX5_readPersons wsX5_must := goodIn_r _ [14, 1, 2, 22, 23, 24, 25, 26, 27, 28, 29, 30, 31, 32, 33, 34, 35, 36, 37, 38] (by decide +kernel) (by decide +kernel)
set_option maxRecDepth 20000 in
theorem gX5_readPersons_X5_must : GoodIn wsX5_readPersons (wsV RX5 134 RX5 yX5_must wsX5_must) := goodIn_app (goodIn_of _ (by decide +kernel)) ggX5_readPersons_X5_must
set_option maxRecDepth 20000 in
theorem ggX5_readPersons_X5_isThing : GoodIn wsX5_readPersons wsX5_isThing := goodIn_r _ [17, 18, 19, 20, 7, 21] (by decide +kernel) (by decide +kernel)
set_option maxRecDepth 20000 in
theorem gX5_readPersons_X5_isThing : GoodIn wsX5_readPersons (va_wsS RX5 96 yX5_isThing wsX5_isThing) := goodIn_app (goodIn_of _ (by decide +kernel)) ggX5_readPersons_X5_isThing
theorem dX5_readPersons_0 : decode cX5_readPersons 0 = .ok (.iconst 0, 1) := by decide +kernel
theorem dX5_readPersons_1 : decode cX5_readPersons 1 = .ok (.istore_n 1, 1) := by decide +kernel
theorem dX5_readPersons_2 : decode cX5_readPersons 2 = .ok (.aload_n 0, 1) := by decide +kernel
theorem dX5_readPersons_3 : decode cX5_readPersons 3 = .ok (.getfield 123, 3) := by decide +kernel
theorem dX5_readPersons_6 : decode cX5_readPersons 6 = .ok (.ifCond .ne 221, 3) := by decide +kernel
theorem dX5_readPersons_9 : decode cX5_readPersons 9 = .ok (.iload_n 1, 1) := by decide +kernel
theorem dX5_readPersons_10 : decode cX5_readPersons 10 = .ok (.ifCond .eq 12, 3) := by decide +kernel
theorem dX5_readPersons_13 : decode cX5_readPersons 13 = .ok (.aload_n 0, 1) := by decide +kernel
theorem dX5_readPersons_14 : decode cX5_readPersons 14 = .ok (.invokevirtual 127, 3) := by decide +kernel
theorem dX5_readPersons_17 : decode cX5_readPersons 17 = .ok (.bipush 44, 2) := by decide +kernel
theorem dX5_readPersons_19 : decode cX5_readPersons 19 = .ok (.if_icmp .ne 208, 3) := by decide +kernel
theorem dX5_readPersons_22 : decode cX5_readPersons 22 = .ok (.iload_n 1, 1) := by decide +kernel
theorem dX5_readPersons_23 : decode cX5_readPersons 23 = .ok (.ifCond .le 18, 3) := by decide +kernel
theorem dX5_readPersons_26 : decode cX5_readPersons 26 = .ok (.aload_n 0, 1) := by decide +kernel
theorem dX5_readPersons_27 : decode cX5_readPersons 27 = .ok (.iload_n 1, 1) := by decide +kernel
theorem dX5_readPersons_28 : decode cX5_readPersons 28 = .ok (.bipush 6, 2) := by decide +kernel
theorem dX5_readPersons_30 : decode cX5_readPersons 30 = .ok (.if_icmp .ge 7, 3) := by decide +kernel
theorem dX5_readPersons_33 : decode cX5_readPersons 33 = .ok (.iconst 1, 1) := by decide +kernel
theorem dX5_readPersons_34 : decode cX5_readPersons 34 = .ok (.goto 4, 3) := by decide +kernel
theorem dX5_readPersons_37 : decode cX5_readPersons 37 = .ok (.iconst 0, 1) := by decide +kernel
theorem dX5_readPersons_38 : decode cX5_readPersons 38 = .ok (.invokevirtual 134, 3) := by decide +kernel
theorem dX5_readPersons_41 : decode cX5_readPersons 41 = .ok (.aload_n 0, 1) := by decide +kernel
theorem dX5_readPersons_42 : decode cX5_readPersons 42 = .ok (.getfield 123, 3) := by decide +kernel
theorem dX5_readPersons_45 : decode cX5_readPersons 45 = .ok (.ifCond .eq 7, 3) := by decide +kernel
theorem dX5_readPersons_48 : decode cX5_readPersons 48 = .ok (.iconst 0, 1) := by decide +kernel
theorem dX5_readPersons_49 : decode cX5_readPersons 49 = .ok (.goto 7, 3) := by decide +kernel
theorem dX5_readPersons_52 : decode cX5_readPersons 52 = .ok (.aload_n 0, 1) := by decide +kernel
theorem dX5_readPersons_53 : decode cX5_readPersons 53 = .ok (.invokevirtual 127, 3) := by decide +kernel
theorem dX5_readPersons_56 : decode cX5_readPersons 56 = .ok (.istore_n 2, 1) := by decide +kernel
theorem dX5_readPersons_57 : decode cX5_readPersons 57 = .ok (.iload_n 2, 1) := by decide +kernel
theorem dX5_readPersons_58 : decode cX5_readPersons 58 = .ok (.bipush 112, 2) := by decide +kernel
theorem dX5_readPersons_60 : decode cX5_readPersons 60 = .ok (.if_icmp .ne 7, 3) := by decide +kernel
theorem dX5_readPersons_63 : decode cX5_readPersons 63 = .ok (.iconst 0, 1) := by decide +kernel
theorem dX5_readPersons_64 : decode cX5_readPersons 64 = .ok (.goto 44, 3) := by decide +kernel
theorem dX5_readPersons_67 : decode cX5_readPersons 67 = .ok (.iload_n 2, 1) := by decide +kernel
theorem dX5_readPersons_68 : decode cX5_readPersons 68 = .ok (.bipush 108, 2) := by decide +kernel
theorem dX5_readPersons_70 : decode cX5_readPersons 70 = .ok (.if_icmp .ne 7, 3) := by decide +kernel
theorem dX5_readPersons_73 : decode cX5_readPersons 73 = .ok (.iconst 1, 1) := by decide +kernel
theorem dX5_readPersons_74 : decode cX5_readPersons 74 = .ok (.goto 34, 3) := by decide +kernel
theorem dX5_readPersons_77 : decode cX5_readPersons 77 = .ok (.iload_n 2, 1) := by decide +kernel
theorem dX5_readPersons_78 : decode cX5_readPersons 78 = .ok (.bipush 100, 2) := by decide +kernel
theorem dX5_readPersons_80 : decode cX5_readPersons 80 = .ok (.if_icmp .ne 7, 3) := by decide +kernel
theorem dX5_readPersons_83 : decode cX5_readPersons 83 = .ok (.iconst 2, 1) := by decide +kernel
theorem dX5_readPersons_84 : decode cX5_readPersons 84 = .ok (.goto 24, 3) := by decide +kernel
theorem dX5_readPersons_87 : decode cX5_readPersons 87 = .ok (.iload_n 2, 1) := by decide +kernel
theorem dX5_readPersons_88 : decode cX5_readPersons 88 = .ok (.bipush 101, 2) := by decide +kernel
theorem dX5_readPersons_90 : decode cX5_readPersons 90 = .ok (.if_icmp .ne 7, 3) := by decide +kernel
theorem dX5_readPersons_93 : decode cX5_readPersons 93 = .ok (.iconst 3, 1) := by decide +kernel
theorem dX5_readPersons_94 : decode cX5_readPersons 94 = .ok (.goto 14, 3) := by decide +kernel
theorem dX5_readPersons_97 : decode cX5_readPersons 97 = .ok (.iload_n 2, 1) := by decide +kernel
theorem dX5_readPersons_98 : decode cX5_readPersons 98 = .ok (.bipush 102, 2) := by decide +kernel
theorem dX5_readPersons_100 : decode cX5_readPersons 100 = .ok (.if_icmp .ne 7, 3) := by decide +kernel
theorem dX5_readPersons_103 : decode cX5_readPersons 103 = .ok (.iconst 4, 1) := by decide +kernel
theorem dX5_readPersons_104 : decode cX5_readPersons 104 = .ok (.goto 4, 3) := by decide +kernel
theorem dX5_readPersons_107 : decode cX5_readPersons 107 = .ok (.iconst (-1), 1) := by decide +kernel
theorem dX5_readPersons_108 : decode cX5_readPersons 108 = .ok (.istore_n 3, 1) := by decide +kernel
theorem dX5_readPersons_109 : decode cX5_readPersons 109 = .ok (.aload_n 0, 1) := by decide +kernel
theorem dX5_readPersons_110 : decode cX5_readPersons 110 = .ok (.iload_n 3, 1) := by decide +kernel
theorem dX5_readPersons_111 : decode cX5_readPersons 111 = .ok (.ifCond .lt 7, 3) := by decide +kernel
theorem dX5_readPersons_114 : decode cX5_readPersons 114 = .ok (.iconst 1, 1) := by decide +kernel
theorem dX5_readPersons_115 : decode cX5_readPersons 115 = .ok (.goto 4, 3) := by decide +kernel
theorem dX5_readPersons_118 : decode cX5_readPersons 118 = .ok (.iconst 0, 1) := by decide +kernel
theorem dX5_readPersons_119 : decode cX5_readPersons 119 = .ok (.invokevirtual 134, 3) := by decide +kernel
theorem dX5_readPersons_122 : decode cX5_readPersons 122 = .ok (.iconst 0, 1) := by decide +kernel
theorem dX5_readPersons_123 : decode cX5_readPersons 123 = .ok (.istore 4, 2) := by decide +kernel
theorem dX5_readPersons_125 : decode cX5_readPersons 125 = .ok (.aload_n 0, 1) := by decide +kernel
theorem dX5_readPersons_126 : decode cX5_readPersons 126 = .ok (.getfield 123, 3) := by decide +kernel
theorem dX5_readPersons_129 : decode cX5_readPersons 129 = .ok (.ifCond .eq 7, 3) := by decide +kernel
theorem dX5_readPersons_132 : decode cX5_readPersons 132 = .ok (.iconst (-1), 1) := by decide +kernel
theorem dX5_readPersons_133 : decode cX5_readPersons 133 = .ok (.goto 10, 3) := by decide +kernel
theorem dX5_readPersons_136 : decode cX5_readPersons 136 = .ok (.aload_n 0, 1) := by decide +kernel
theorem dX5_readPersons_137 : decode cX5_readPersons 137 = .ok (.invokevirtual 127, 3) := by decide +kernel
theorem dX5_readPersons_140 : decode cX5_readPersons 140 = .ok (.bipush 48, 2) := by decide +kernel
theorem dX5_readPersons_142 : decode cX5_readPersons 142 = .ok (.isub, 1) := by decide +kernel
theorem dX5_readPersons_143 : decode cX5_readPersons 143 = .ok (.istore 5, 2) := by decide +kernel
theorem dX5_readPersons_145 : decode cX5_readPersons 145 = .ok (.iload 5, 2) := by decide +kernel
theorem dX5_readPersons_147 : decode cX5_readPersons 147 = .ok (.invokestatic 96, 3) := by decide +kernel
theorem dX5_readPersons_150 : decode cX5_readPersons 150 = .ok (.ifCond .eq 43, 3) := by decide +kernel
theorem dX5_readPersons_153 : decode cX5_readPersons 153 = .ok (.iconst 1, 1) := by decide +kernel
theorem dX5_readPersons_154 : decode cX5_readPersons 154 = .ok (.iload 5, 2) := by decide +kernel
theorem dX5_readPersons_156 : decode cX5_readPersons 156 = .ok (.ishl, 1) := by decide +kernel
theorem dX5_readPersons_157 : decode cX5_readPersons 157 = .ok (.iload 4, 2) := by decide +kernel
theorem dX5_readPersons_159 : decode cX5_readPersons 159 = .ok (.if_icmp .le 34, 3) := by decide +kernel
theorem dX5_readPersons_162 : decode cX5_readPersons 162 = .ok (.iload 4, 2) := by decide +kernel
theorem dX5_readPersons_164 : decode cX5_readPersons 164 = .ok (.iconst 1, 1) := by decide +kernel
theorem dX5_readPersons_165 : decode cX5_readPersons 165 = .ok (.iload 5, 2) := by decide +kernel
theorem dX5_readPersons_167 : decode cX5_readPersons 167 = .ok (.ishl, 1) := by decide +kernel
theorem dX5_readPersons_168 : decode cX5_readPersons 168 = .ok (.ior, 1) := by decide +kernel
theorem dX5_readPersons_169 : decode cX5_readPersons 169 = .ok (.istore 4, 2) := by decide +kernel
theorem dX5_readPersons_171 : decode cX5_readPersons 171 = .ok (.aload_n 0, 1) := by decide +kernel
theorem dX5_readPersons_172 : decode cX5_readPersons 172 = .ok (.dup, 1) := by decide +kernel
theorem dX5_readPersons_173 : decode cX5_readPersons 173 = .ok (.getfield 120, 3) := by decide +kernel
theorem dX5_readPersons_176 : decode cX5_readPersons 176 = .ok (.iconst 1, 1) := by decide +kernel
theorem dX5_readPersons_177 : decode cX5_readPersons 177 = .ok (.iadd, 1) := by decide +kernel
theorem dX5_readPersons_178 : decode cX5_readPersons 178 = .ok (.putfield 120, 3) := by decide +kernel
theorem dX5_readPersons_181 : decode cX5_readPersons 181 = .ok (.aload_n 0, 1) := by decide +kernel
theorem dX5_readPersons_182 : decode cX5_readPersons 182 = .ok (.invokevirtual 127, 3) := by decide +kernel
theorem dX5_readPersons_185 : decode cX5_readPersons 185 = .ok (.bipush 48, 2) := by decide +kernel
theorem dX5_readPersons_187 : decode cX5_readPersons 187 = .ok (.isub, 1) := by decide +kernel
theorem dX5_readPersons_188 : decode cX5_readPersons 188 = .ok (.istore 5, 2) := by decide +kernel
theorem dX5_readPersons_190 : decode cX5_readPersons 190 = .ok (.goto (-45), 3) := by decide +kernel
theorem dX5_readPersons_193 : decode cX5_readPersons 193 = .ok (.aload_n 0, 1) := by decide +kernel
theorem dX5_readPersons_194 : decode cX5_readPersons 194 = .ok (.getfield 123, 3) := by decide +kernel
theorem dX5_readPersons_197 : decode cX5_readPersons 197 = .ok (.ifCond .ne 24, 3) := by decide +kernel
theorem dX5_readPersons_200 : decode cX5_readPersons 200 = .ok (.aload_n 0, 1) := by decide +kernel
theorem dX5_readPersons_201 : decode cX5_readPersons 201 = .ok (.getfield 16, 3) := by decide +kernel
theorem dX5_readPersons_204 : decode cX5_readPersons 204 = .ok (.iconst 2, 1) := by decide +kernel
theorem dX5_readPersons_205 : decode cX5_readPersons 205 = .ok (.iload_n 1, 1) := by decide +kernel
theorem dX5_readPersons_206 : decode cX5_readPersons 206 = .ok (.imul, 1) := by decide +kernel
theorem dX5_readPersons_207 : decode cX5_readPersons 207 = .ok (.iload_n 3, 1) := by decide +kernel
theorem dX5_readPersons_208 : decode cX5_readPersons 208 = .ok (.iastore, 1) := by decide +kernel
theorem dX5_readPersons_209 : decode cX5_readPersons 209 = .ok (.aload_n 0, 1) := by decide +kernel
theorem dX5_readPersons_210 : decode cX5_readPersons 210 = .ok (.getfield 16, 3) := by decide +kernel
theorem dX5_readPersons_213 : decode cX5_readPersons 213 = .ok (.iconst 2, 1) := by decide +kernel
theorem dX5_readPersons_214 : decode cX5_readPersons 214 = .ok (.iload_n 1, 1) := by decide +kernel
theorem dX5_readPersons_215 : decode cX5_readPersons 215 = .ok (.imul, 1) := by decide +kernel
theorem dX5_readPersons_216 : decode cX5_readPersons 216 = .ok (.iconst 1, 1) := by decide +kernel
theorem dX5_readPersons_217 : decode cX5_readPersons 217 = .ok (.iadd, 1) := by decide +kernel
theorem dX5_readPersons_218 : decode cX5_readPersons 218 = .ok (.iload 4, 2) := by decide +kernel
theorem dX5_readPersons_220 : decode cX5_readPersons 220 = .ok (.iastore, 1) := by decide +kernel
theorem dX5_readPersons_221 : decode cX5_readPersons 221 = .ok (.iinc 1 1, 3) := by decide +kernel
theorem dX5_readPersons_224 : decode cX5_readPersons 224 = .ok (.goto (-222), 3) := by decide +kernel
theorem dX5_readPersons_227 : decode cX5_readPersons 227 = .ok (.iload_n 1, 1) := by decide +kernel
theorem dX5_readPersons_228 : decode cX5_readPersons 228 = .ok (.ireturn, 1) := by decide +kernel
set_option maxRecDepth 20000 in
theorem ggX5_court_X5_number : GoodIn wsX5_court wsX5_number := goodIn_r _ [10, 2, 1, 11, 12, 3, 13, 14, 15, 16, 9, 17, 18, 19, 20, 38, 39, 40, 41, 42, 43, 44, 45, 46, 47, 48, 49, 50, 51, 52, 53, 54] (by decide +kernel) (by decide +kernel)
set_option maxRecDepth 20000 in
theorem gX5_court_X5_number : GoodIn wsX5_court (wsV RX5 138 RX5 yX5_number wsX5_number) := goodIn_app (goodIn_of _ (by decide +kernel)) ggX5_court_X5_number
set_option maxRecDepth 20000 in
theorem ggX5_court_X5_here : GoodIn wsX5_court wsX5_here := goodIn_r _ [17, 1, 3, 13, 38, 39, 40, 41, 42, 43, 44, 45, 46, 47, 48, 49, 50, 51, 52, 53, 54] (by decide +kernel) (by decide +kernel)
set_option maxRecDepth 20000 in
theorem gX5_court_X5_here : GoodIn wsX5_court (wsV RX5 127 RX5 yX5_here wsX5_here) := goodIn_app (goodIn_of _ (by decide +kernel)) ggX5_court_X5_here
set_option maxRecDepth 20000 in
theorem ggX5_court_X5_must : GoodIn wsX5_court wsX5_must := goodIn_r _ [24, 2, 1, 38, 39, 40, 41, 42, 43, 44, 45, 46, 47, 48, 49, 50, 51, 52, 53, 54] (by decide +kernel) (by decide +kernel)
set_option maxRecDepth 20000 in
theorem gX5_court_X5_must : GoodIn wsX5_court (wsV RX5 134 RX5 yX5_must wsX5_must) := goodIn_app (goodIn_of _ (by decide +kernel)) ggX5_court_X5_must
set_option maxRecDepth 20000 in
theorem ggX5_court_X5_readPersons : GoodIn wsX5_court wsX5_readPersons := goodIn_r _ [28, 2, 1, 5, 14, 15, 16, 9, 17, 3, 13, 21, 22, 23, 24, 29, 30, 31, 32, 18, 19, 20, 38, 39, 40, 41, 42, 43, 44, 45, 46, 47, 48, 49, 50, 51, 52, 53, 54] (by decide +kernel) (by decide +kernel)
set_option maxRecDepth 20000 in
theorem gX5_court_X5_readPersons : GoodIn wsX5_court (wsV RX5 142 RX5 yX5_readPersons wsX5_readPersons) := goodIn_app (goodIn_of _ (by decide +kernel)) ggX5_court_X5_readPersons
set_option maxRecDepth 20000 in
theorem ggX5_court_X5_comes : GoodIn wsX5_court wsX5_comes := goodIn_r _ [36, 4, 37, 38, 39, 40, 41, 42, 43, 44, 45, 46, 47, 48, 49, 50, 51, 52, 53, 54] (by decide +kernel) (by decide +kernel)
set_option maxRecDepth 20000 in
theorem gX5_court_X5_comes : GoodIn wsX5_court (wsV RX5 73 RX5 yX5_comes wsX5_comes) := goodIn_app (goodIn_of _ (by decide +kernel)) ggX5_court_X5_comes
theorem dX5_court_0 : decode cX5_court 0 = .ok (.aload_n 0, 1) := by decide +kernel
theorem dX5_court_1 : decode cX5_court 1 = .ok (.iconst 0, 1) := by decide +kernel
theorem dX5_court_2 : decode cX5_court 2 = .ok (.putfield 120, 3) := by decide +kernel
theorem dX5_court_5 : decode cX5_court 5 = .ok (.aload_n 0, 1) := by decide +kernel
theorem dX5_court_6 : decode cX5_court 6 = .ok (.iconst 0, 1) := by decide +kernel
theorem dX5_court_7 : decode cX5_court 7 = .ok (.putfield 123, 3) := by decide +kernel
theorem dX5_court_10 : decode cX5_court 10 = .ok (.aload_n 0, 1) := by decide +kernel
theorem dX5_court_11 : decode cX5_court 11 = .ok (.iconst 1, 1) := by decide +kernel
theorem dX5_court_12 : decode cX5_court 12 = .ok (.bipush 9, 2) := by decide +kernel
theorem dX5_court_14 : decode cX5_court 14 = .ok (.iconst 1, 1) := by decide +kernel
theorem dX5_court_15 : decode cX5_court 15 = .ok (.invokevirtual 138, 3) := by decide +kernel
theorem dX5_court_18 : decode cX5_court 18 = .ok (.istore_n 1, 1) := by decide +kernel
theorem dX5_court_19 : decode cX5_court 19 = .ok (.aload_n 0, 1) := by decide +kernel
theorem dX5_court_20 : decode cX5_court 20 = .ok (.aload_n 0, 1) := by decide +kernel
theorem dX5_court_21 : decode cX5_court 21 = .ok (.getfield 123, 3) := by decide +kernel
theorem dX5_court_24 : decode cX5_court 24 = .ok (.ifCond .ne 16, 3) := by decide +kernel
theorem dX5_court_27 : decode cX5_court 27 = .ok (.aload_n 0, 1) := by decide +kernel
theorem dX5_court_28 : decode cX5_court 28 = .ok (.invokevirtual 127, 3) := by decide +kernel
theorem dX5_court_31 : decode cX5_court 31 = .ok (.bipush 47, 2) := by decide +kernel
theorem dX5_court_33 : decode cX5_court 33 = .ok (.if_icmp .ne 7, 3) := by decide +kernel
theorem dX5_court_36 : decode cX5_court 36 = .ok (.iconst 1, 1) := by decide +kernel
theorem dX5_court_37 : decode cX5_court 37 = .ok (.goto 4, 3) := by decide +kernel
theorem dX5_court_40 : decode cX5_court 40 = .ok (.iconst 0, 1) := by decide +kernel
theorem dX5_court_41 : decode cX5_court 41 = .ok (.invokevirtual 134, 3) := by decide +kernel
theorem dX5_court_44 : decode cX5_court 44 = .ok (.aload_n 0, 1) := by decide +kernel
theorem dX5_court_45 : decode cX5_court 45 = .ok (.iconst 2, 1) := by decide +kernel
theorem dX5_court_46 : decode cX5_court 46 = .ok (.bipush 30, 2) := by decide +kernel
theorem dX5_court_48 : decode cX5_court 48 = .ok (.iconst 2, 1) := by decide +kernel
theorem dX5_court_49 : decode cX5_court 49 = .ok (.invokevirtual 138, 3) := by decide +kernel
theorem dX5_court_52 : decode cX5_court 52 = .ok (.istore_n 2, 1) := by decide +kernel
theorem dX5_court_53 : decode cX5_court 53 = .ok (.aload_n 0, 1) := by decide +kernel
theorem dX5_court_54 : decode cX5_court 54 = .ok (.aload_n 0, 1) := by decide +kernel
