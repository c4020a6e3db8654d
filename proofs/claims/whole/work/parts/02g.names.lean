theorem dX5_thick_0 : decode cX5_thick 0 = .ok (.iload_n 1, 1) := by decide +kernel
theorem dX5_thick_1 : decode cX5_thick 1 = .ok (.i2l, 1) := by decide +kernel
theorem dX5_thick_2 : decode cX5_thick 2 = .ok (.lconst 1, 1) := by decide +kernel
theorem dX5_thick_3 : decode cX5_thick 3 = .ok (.ldc2_w 101, 3) := by decide +kernel
theorem dX5_thick_6 : decode cX5_thick 6 = .ok (.invokestatic 44, 3) := by decide +kernel
theorem dX5_thick_9 : decode cX5_thick 9 = .ok (.ifCond .eq 10, 3) := by decide +kernel
theorem dX5_thick_12 : decode cX5_thick 12 = .ok (.iload_n 2, 1) := by decide +kernel
theorem dX5_thick_13 : decode cX5_thick 13 = .ok (.invokestatic 162, 3) := by decide +kernel
theorem dX5_thick_16 : decode cX5_thick 16 = .ok (.ifCond .ne 5, 3) := by decide +kernel
theorem dX5_thick_19 : decode cX5_thick 19 = .ok (.iconst (-1), 1) := by decide +kernel
theorem dX5_thick_20 : decode cX5_thick 20 = .ok (.ireturn, 1) := by decide +kernel
theorem dX5_thick_21 : decode cX5_thick 21 = .ok (.aload_n 0, 1) := by decide +kernel
theorem dX5_thick_22 : decode cX5_thick 22 = .ok (.invokevirtual 174, 3) := by decide +kernel
theorem dX5_thick_25 : decode cX5_thick 25 = .ok (.iconst 1, 1) := by decide +kernel
theorem dX5_thick_26 : decode cX5_thick 26 = .ok (.istore_n 3, 1) := by decide +kernel
theorem dX5_thick_27 : decode cX5_thick 27 = .ok (.iload_n 3, 1) := by decide +kernel
theorem dX5_thick_28 : decode cX5_thick 28 = .ok (.bipush 10, 2) := by decide +kernel
theorem dX5_thick_30 : decode cX5_thick 30 = .ok (.if_icmp .ge 32, 3) := by decide +kernel
theorem dX5_thick_33 : decode cX5_thick 33 = .ok (.aload_n 0, 1) := by decide +kernel
theorem dX5_thick_34 : decode cX5_thick 34 = .ok (.getfield 7, 3) := by decide +kernel
theorem dX5_thick_37 : decode cX5_thick 37 = .ok (.iconst 2, 1) := by decide +kernel
theorem dX5_thick_38 : decode cX5_thick 38 = .ok (.iload_n 3, 1) := by decide +kernel
theorem dX5_thick_39 : decode cX5_thick 39 = .ok (.iastore, 1) := by decide +kernel
theorem dX5_thick_40 : decode cX5_thick 40 = .ok (.aload_n 0, 1) := by decide +kernel
theorem dX5_thick_41 : decode cX5_thick 41 = .ok (.iload_n 3, 1) := by decide +kernel
theorem dX5_thick_42 : decode cX5_thick 42 = .ok (.invokevirtual 151, 3) := by decide +kernel
theorem dX5_thick_45 : decode cX5_thick 45 = .ok (.aload_n 0, 1) := by decide +kernel
theorem dX5_thick_46 : decode cX5_thick 46 = .ok (.iload_n 1, 1) := by decide +kernel
theorem dX5_thick_47 : decode cX5_thick 47 = .ok (.iload_n 2, 1) := by decide +kernel
theorem dX5_thick_48 : decode cX5_thick 48 = .ok (.invokevirtual 184, 3) := by decide +kernel
theorem dX5_thick_51 : decode cX5_thick 51 = .ok (.ifCond .ne 5, 3) := by decide +kernel
theorem dX5_thick_54 : decode cX5_thick 54 = .ok (.iload_n 3, 1) := by decide +kernel
theorem dX5_thick_55 : decode cX5_thick 55 = .ok (.ireturn, 1) := by decide +kernel
theorem dX5_thick_56 : decode cX5_thick 56 = .ok (.iinc 3 1, 3) := by decide +kernel
theorem dX5_thick_59 : decode cX5_thick 59 = .ok (.goto (-32), 3) := by decide +kernel
theorem dX5_thick_62 : decode cX5_thick 62 = .ok (.bipush (-4), 2) := by decide +kernel
theorem dX5_thick_64 : decode cX5_thick 64 = .ok (.ireturn, 1) := by decide +kernel
theorem dX5_many_0 : decode cX5_many 0 = .ok (.iconst 0, 1) := by decide +kernel
theorem dX5_many_1 : decode cX5_many 1 = .ok (.istore_n 1, 1) := by decide +kernel
theorem dX5_many_2 : decode cX5_many 2 = .ok (.iload_n 0, 1) := by decide +kernel
theorem dX5_many_3 : decode cX5_many 3 = .ok (.istore_n 2, 1) := by decide +kernel
theorem dX5_many_4 : decode cX5_many 4 = .ok (.iload_n 2, 1) := by decide +kernel
theorem dX5_many_5 : decode cX5_many 5 = .ok (.ifCond .eq 15, 3) := by decide +kernel
theorem dX5_many_8 : decode cX5_many 8 = .ok (.iinc 1 1, 3) := by decide +kernel
theorem dX5_many_11 : decode cX5_many 11 = .ok (.iload_n 2, 1) := by decide +kernel
theorem dX5_many_12 : decode cX5_many 12 = .ok (.iload_n 2, 1) := by decide +kernel
theorem dX5_many_13 : decode cX5_many 13 = .ok (.iconst 1, 1) := by decide +kernel
theorem dX5_many_14 : decode cX5_many 14 = .ok (.isub, 1) := by decide +kernel
theorem dX5_many_15 : decode cX5_many 15 = .ok (.iand, 1) := by decide +kernel
theorem dX5_many_16 : decode cX5_many 16 = .ok (.istore_n 2, 1) := by decide +kernel
theorem dX5_many_17 : decode cX5_many 17 = .ok (.goto (-13), 3) := by decide +kernel
theorem dX5_many_20 : decode cX5_many 20 = .ok (.iload_n 1, 1) := by decide +kernel
theorem dX5_many_21 : decode cX5_many 21 = .ok (.ireturn, 1) := by decide +kernel
set_option maxRecDepth 20000 in
theorem ggX5_renew_X5_isThing : GoodIn wsX5_renew wsX5_isThing := goodIn_r _ [7, 8, 9, 10, 6, 11] (by decide +kernel) (by decide +kernel)
set_option maxRecDepth 20000 in
theorem gX5_renew_X5_isThing : GoodIn wsX5_renew (va_wsS RX5 96 yX5_isThing wsX5_isThing) := goodIn_app (goodIn_of _ (by decide +kernel)) ggX5_renew_X5_isThing
set_option maxRecDepth 20000 in
theorem ggX5_renew_X5_in : GoodIn wsX5_renew wsX5_in := goodIn_r _ [11] (by decide +kernel) (by decide +kernel)
set_option maxRecDepth 20000 in
theorem gX5_renew_X5_in : GoodIn wsX5_renew (va_wsS RX5 44 yX5_in wsX5_in) := goodIn_app (goodIn_of _ (by decide +kernel)) ggX5_renew_X5_in
set_option maxRecDepth 20000 in
theorem ggX5_renew_X5_isHeat : GoodIn wsX5_renew wsX5_isHeat := goodIn_r _ [14, 15, 9, 10, 6, 11] (by decide +kernel) (by decide +kernel)
set_option maxRecDepth 20000 in
theorem gX5_renew_X5_isHeat : GoodIn wsX5_renew (va_wsS RX5 162 yX5_isHeat wsX5_isHeat) := goodIn_app (goodIn_of _ (by decide +kernel)) ggX5_renew_X5_isHeat
set_option maxRecDepth 20000 in
theorem ggX5_renew_X5_asides : GoodIn wsX5_renew wsX5_asides := goodIn_r _ [19, 20, 3, 69, 70, 71, 72, 73, 74, 75, 76, 77, 78, 79, 80, 81, 82, 83, 84, 85] (by decide +kernel) (by decide +kernel)
set_option maxRecDepth 20000 in
theorem gX5_renew_X5_asides : GoodIn wsX5_renew (wsV RX5 174 RX5 yX5_asides wsX5_asides) := goodIn_app (goodIn_of _ (by decide +kernel)) ggX5_renew_X5_asides
set_option maxRecDepth 20000 in
theorem ggX5_renew_X5_who : GoodIn wsX5_renew wsX5_who := goodIn_r _ [24, 3, 25, 26, 27, 6, 28, 29, 30, 31, 32, 69, 70, 71, 72, 73, 74, 75, 76, 77, 78, 79, 80, 81, 82, 83, 84, 85] (by decide +kernel) (by decide +kernel)
set_option maxRecDepth 20000 in
theorem gX5_renew_X5_who : GoodIn wsX5_renew (wsV RX5 64 RX5 yX5_who wsX5_who) := goodIn_app (goodIn_of _ (by decide +kernel)) ggX5_renew_X5_who
set_option maxRecDepth 20000 in
theorem ggX5_renew_X5_many : GoodIn wsX5_renew wsX5_many := goodIn_r _ [35] (by decide +kernel) (by decide +kernel)
set_option maxRecDepth 20000 in
theorem gX5_renew_X5_many : GoodIn wsX5_renew (va_wsS RX5 189 yX5_many wsX5_many) := goodIn_app (goodIn_of _ (by decide +kernel)) ggX5_renew_X5_many
set_option maxRecDepth 20000 in
theorem ggX5_renew_X5_sealOf : GoodIn wsX5_renew wsX5_sealOf := goodIn_r _ [32, 3, 69, 70, 71, 72, 73, 74, 75, 76, 77, 78, 79, 80, 81, 82, 83, 84, 85] (by decide +kernel) (by decide +kernel)
set_option maxRecDepth 20000 in
theorem gX5_renew_X5_sealOf : GoodIn wsX5_renew (wsV RX5 52 RX5 yX5_sealOf wsX5_sealOf) := goodIn_app (goodIn_of _ (by decide +kernel)) ggX5_renew_X5_sealOf
set_option maxRecDepth 20000 in
theorem ggX5_renew_X5_goesOn : GoodIn wsX5_renew wsX5_goesOn := goodIn_r _ [39, 40, 41, 42, 6, 43, 3, 44, 45, 46, 47, 48, 29, 30, 31, 32, 49, 50, 51, 52, 53, 54, 55, 56, 57, 58, 59, 60, 25, 26, 27, 28, 61, 62, 63, 64, 69, 70, 71, 72, 73, 74, 75, 76, 77, 78, 79, 80, 81, 82, 83, 84, 85] (by decide +kernel) (by decide +kernel)
set_option maxRecDepth 20000 in
theorem gX5_renew_X5_goesOn : GoodIn wsX5_renew (wsV RX5 177 RX5 yX5_goesOn wsX5_goesOn) := goodIn_app (goodIn_of _ (by decide +kernel)) ggX5_renew_X5_goesOn
set_option maxRecDepth 20000 in
theorem ggX5_renew_X5_backs : GoodIn wsX5_renew wsX5_backs := goodIn_r _ [68, 3, 20, 69, 70, 71, 72, 73, 74, 75, 76, 77, 78, 79, 80, 81, 82, 83, 84, 85] (by decide +kernel) (by decide +kernel)
set_option maxRecDepth 20000 in
theorem gX5_renew_X5_backs : GoodIn wsX5_renew (wsV RX5 181 RX5 yX5_backs wsX5_backs) := goodIn_app (goodIn_of _ (by decide +kernel)) ggX5_renew_X5_backs
theorem dX5_renew_0 : decode cX5_renew 0 = .ok (.iload_n 1, 1) := by decide +kernel
theorem dX5_renew_1 : decode cX5_renew 1 = .ok (.invokestatic 96, 3) := by decide +kernel
theorem dX5_renew_4 : decode cX5_renew 4 = .ok (.ifCond .eq 46, 3) := by decide +kernel
theorem dX5_renew_7 : decode cX5_renew 7 = .ok (.iload_n 2, 1) := by decide +kernel
theorem dX5_renew_8 : decode cX5_renew 8 = .ok (.i2l, 1) := by decide +kernel
theorem dX5_renew_9 : decode cX5_renew 9 = .ok (.lconst 0, 1) := by decide +kernel
theorem dX5_renew_10 : decode cX5_renew 10 = .ok (.ldc2_w 172, 3) := by decide +kernel
theorem dX5_renew_13 : decode cX5_renew 13 = .ok (.invokestatic 44, 3) := by decide +kernel
theorem dX5_renew_16 : decode cX5_renew 16 = .ok (.ifCond .eq 34, 3) := by decide +kernel
theorem dX5_renew_19 : decode cX5_renew 19 = .ok (.iload_n 3, 1) := by decide +kernel
theorem dX5_renew_20 : decode cX5_renew 20 = .ok (.invokestatic 162, 3) := by decide +kernel
theorem dX5_renew_23 : decode cX5_renew 23 = .ok (.ifCond .eq 27, 3) := by decide +kernel
theorem dX5_renew_26 : decode cX5_renew 26 = .ok (.iload 4, 2) := by decide +kernel
theorem dX5_renew_28 : decode cX5_renew 28 = .ok (.i2l, 1) := by decide +kernel
theorem dX5_renew_29 : decode cX5_renew 29 = .ok (.lconst 0, 1) := by decide +kernel
theorem dX5_renew_30 : decode cX5_renew 30 = .ok (.ldc2_w 187, 3) := by decide +kernel
theorem dX5_renew_33 : decode cX5_renew 33 = .ok (.invokestatic 44, 3) := by decide +kernel
theorem dX5_renew_36 : decode cX5_renew 36 = .ok (.ifCond .eq 14, 3) := by decide +kernel
theorem dX5_renew_39 : decode cX5_renew 39 = .ok (.iload 5, 2) := by decide +kernel
theorem dX5_renew_41 : decode cX5_renew 41 = .ok (.i2l, 1) := by decide +kernel
theorem dX5_renew_42 : decode cX5_renew 42 = .ok (.lconst 0, 1) := by decide +kernel
theorem dX5_renew_43 : decode cX5_renew 43 = .ok (.lconst 1, 1) := by decide +kernel
theorem dX5_renew_44 : decode cX5_renew 44 = .ok (.invokestatic 44, 3) := by decide +kernel
theorem dX5_renew_47 : decode cX5_renew 47 = .ok (.ifCond .ne 5, 3) := by decide +kernel
theorem dX5_renew_50 : decode cX5_renew 50 = .ok (.iconst (-1), 1) := by decide +kernel
theorem dX5_renew_51 : decode cX5_renew 51 = .ok (.ireturn, 1) := by decide +kernel
theorem dX5_renew_52 : decode cX5_renew 52 = .ok (.aload_n 0, 1) := by decide +kernel
theorem dX5_renew_53 : decode cX5_renew 53 = .ok (.invokevirtual 174, 3) := by decide +kernel
theorem dX5_renew_56 : decode cX5_renew 56 = .ok (.aload_n 0, 1) := by decide +kernel
theorem dX5_renew_57 : decode cX5_renew 57 = .ok (.iload_n 1, 1) := by decide +kernel
theorem dX5_renew_58 : decode cX5_renew 58 = .ok (.invokevirtual 64, 3) := by decide +kernel
theorem dX5_renew_61 : decode cX5_renew 61 = .ok (.istore 6, 2) := by decide +kernel
theorem dX5_renew_63 : decode cX5_renew 63 = .ok (.bipush (-4), 2) := by decide +kernel
theorem dX5_renew_65 : decode cX5_renew 65 = .ok (.istore 7, 2) := by decide +kernel
theorem dX5_renew_67 : decode cX5_renew 67 = .ok (.iconst 0, 1) := by decide +kernel
theorem dX5_renew_68 : decode cX5_renew 68 = .ok (.istore 8, 2) := by decide +kernel
theorem dX5_renew_70 : decode cX5_renew 70 = .ok (.iload 8, 2) := by decide +kernel
theorem dX5_renew_72 : decode cX5_renew 72 = .ok (.iload 6, 2) := by decide +kernel
theorem dX5_renew_74 : decode cX5_renew 74 = .ok (.if_icmp .gt 133, 3) := by decide +kernel
theorem dX5_renew_77 : decode cX5_renew 77 = .ok (.iload 8, 2) := by decide +kernel
theorem dX5_renew_79 : decode cX5_renew 79 = .ok (.iload 6, 2) := by decide +kernel
theorem dX5_renew_81 : decode cX5_renew 81 = .ok (.iconst (-1), 1) := by decide +kernel
theorem dX5_renew_82 : decode cX5_renew 82 = .ok (.ixor, 1) := by decide +kernel
theorem dX5_renew_83 : decode cX5_renew 83 = .ok (.iand, 1) := by decide +kernel
theorem dX5_renew_84 : decode cX5_renew 84 = .ok (.ifCond .ne 117, 3) := by decide +kernel
theorem dX5_renew_87 : decode cX5_renew 87 = .ok (.iload 7, 2) := by decide +kernel
theorem dX5_renew_89 : decode cX5_renew 89 = .ok (.bipush (-4), 2) := by decide +kernel
theorem dX5_renew_91 : decode cX5_renew 91 = .ok (.if_icmp .eq 16, 3) := by decide +kernel
theorem dX5_renew_94 : decode cX5_renew 94 = .ok (.iload 8, 2) := by decide +kernel
theorem dX5_renew_96 : decode cX5_renew 96 = .ok (.invokestatic 189, 3) := by decide +kernel
theorem dX5_renew_99 : decode cX5_renew 99 = .ok (.iload 7, 2) := by decide +kernel
theorem dX5_renew_101 : decode cX5_renew 101 = .ok (.invokestatic 189, 3) := by decide +kernel
theorem dX5_renew_104 : decode cX5_renew 104 = .ok (.if_icmp .ge 97, 3) := by decide +kernel
theorem dX5_renew_107 : decode cX5_renew 107 = .ok (.iconst 0, 1) := by decide +kernel
theorem dX5_renew_108 : decode cX5_renew 108 = .ok (.istore 9, 2) := by decide +kernel
theorem dX5_renew_110 : decode cX5_renew 110 = .ok (.iload 9, 2) := by decide +kernel
theorem dX5_renew_112 : decode cX5_renew 112 = .ok (.aload_n 0, 1) := by decide +kernel
theorem dX5_renew_113 : decode cX5_renew 113 = .ok (.getfield 7, 3) := by decide +kernel
theorem dX5_renew_116 : decode cX5_renew 116 = .ok (.iconst 0, 1) := by decide +kernel
theorem dX5_renew_117 : decode cX5_renew 117 = .ok (.iaload, 1) := by decide +kernel
theorem dX5_renew_118 : decode cX5_renew 118 = .ok (.if_icmp .ge 51, 3) := by decide +kernel
theorem dX5_renew_121 : decode cX5_renew 121 = .ok (.aload_n 0, 1) := by decide +kernel
theorem dX5_renew_122 : decode cX5_renew 122 = .ok (.getfield 7, 3) := by decide +kernel
theorem dX5_renew_125 : decode cX5_renew 125 = .ok (.bipush 17, 2) := by decide +kernel
theorem dX5_renew_127 : decode cX5_renew 127 = .ok (.bipush 8, 2) := by decide +kernel
theorem dX5_renew_129 : decode cX5_renew 129 = .ok (.iload 9, 2) := by decide +kernel
theorem dX5_renew_131 : decode cX5_renew 131 = .ok (.imul, 1) := by decide +kernel
theorem dX5_renew_132 : decode cX5_renew 132 = .ok (.iadd, 1) := by decide +kernel
theorem dX5_renew_133 : decode cX5_renew 133 = .ok (.iload_n 1, 1) := by decide +kernel
theorem dX5_renew_134 : decode cX5_renew 134 = .ok (.iadd, 1) := by decide +kernel
theorem dX5_renew_135 : decode cX5_renew 135 = .ok (.iload 8, 2) := by decide +kernel
theorem dX5_renew_137 : decode cX5_renew 137 = .ok (.iload 9, 2) := by decide +kernel
theorem dX5_renew_139 : decode cX5_renew 139 = .ok (.ishr, 1) := by decide +kernel
theorem dX5_renew_140 : decode cX5_renew 140 = .ok (.iconst 1, 1) := by decide +kernel
theorem dX5_renew_141 : decode cX5_renew 141 = .ok (.iand, 1) := by decide +kernel
theorem dX5_renew_142 : decode cX5_renew 142 = .ok (.iconst 1, 1) := by decide +kernel
theorem dX5_renew_143 : decode cX5_renew 143 = .ok (.if_icmp .ne 12, 3) := by decide +kernel
theorem dX5_renew_146 : decode cX5_renew 146 = .ok (.aload_n 0, 1) := by decide +kernel
theorem dX5_renew_147 : decode cX5_renew 147 = .ok (.getfield 7, 3) := by decide +kernel
theorem dX5_renew_150 : decode cX5_renew 150 = .ok (.iconst 2, 1) := by decide +kernel
theorem dX5_renew_151 : decode cX5_renew 151 = .ok (.iaload, 1) := by decide +kernel
theorem dX5_renew_152 : decode cX5_renew 152 = .ok (.goto 10, 3) := by decide +kernel
theorem dX5_renew_155 : decode cX5_renew 155 = .ok (.aload_n 0, 1) := by decide +kernel
theorem dX5_renew_156 : decode cX5_renew 156 = .ok (.iload 9, 2) := by decide +kernel
theorem dX5_renew_158 : decode cX5_renew 158 = .ok (.iload_n 1, 1) := by decide +kernel
theorem dX5_renew_159 : decode cX5_renew 159 = .ok (.invokevirtual 52, 3) := by decide +kernel
theorem dX5_renew_162 : decode cX5_renew 162 = .ok (.iastore, 1) := by decide +kernel
theorem dX5_renew_163 : decode cX5_renew 163 = .ok (.iinc 9 1, 3) := by decide +kernel
theorem dX5_renew_166 : decode cX5_renew 166 = .ok (.goto (-56), 3) := by decide +kernel
theorem dX5_renew_169 : decode cX5_renew 169 = .ok (.aload_n 0, 1) := by decide +kernel
theorem dX5_renew_170 : decode cX5_renew 170 = .ok (.iload_n 2, 1) := by decide +kernel
theorem dX5_renew_171 : decode cX5_renew 171 = .ok (.iload_n 3, 1) := by decide +kernel
theorem dX5_renew_172 : decode cX5_renew 172 = .ok (.invokevirtual 177, 3) := by decide +kernel
theorem dX5_renew_175 : decode cX5_renew 175 = .ok (.aload_n 0, 1) := by decide +kernel
theorem dX5_renew_176 : decode cX5_renew 176 = .ok (.iload_n 1, 1) := by decide +kernel
theorem dX5_renew_177 : decode cX5_renew 177 = .ok (.invokevirtual 64, 3) := by decide +kernel
theorem dX5_renew_180 : decode cX5_renew 180 = .ok (.invokestatic 189, 3) := by decide +kernel
theorem dX5_renew_183 : decode cX5_renew 183 = .ok (.iload 4, 2) := by decide +kernel
theorem dX5_renew_185 : decode cX5_renew 185 = .ok (.if_icmp .gt 8, 3) := by decide +kernel
theorem dX5_renew_188 : decode cX5_renew 188 = .ok (.iload 8, 2) := by decide +kernel
theorem dX5_renew_190 : decode cX5_renew 190 = .ok (.goto 5, 3) := by decide +kernel
theorem dX5_renew_193 : decode cX5_renew 193 = .ok (.iload 7, 2) := by decide +kernel
theorem dX5_renew_195 : decode cX5_renew 195 = .ok (.istore 7, 2) := by decide +kernel
theorem dX5_renew_197 : decode cX5_renew 197 = .ok (.aload_n 0, 1) := by decide +kernel
theorem dX5_renew_198 : decode cX5_renew 198 = .ok (.invokevirtual 181, 3) := by decide +kernel
theorem dX5_renew_201 : decode cX5_renew 201 = .ok (.iinc 8 1, 3) := by decide +kernel
theorem dX5_renew_204 : decode cX5_renew 204 = .ok (.goto (-134), 3) := by decide +kernel
theorem dX5_renew_207 : decode cX5_renew 207 = .ok (.iload 5, 2) := by decide +kernel
theorem dX5_renew_209 : decode cX5_renew 209 = .ok (.iconst 1, 1) := by decide +kernel
theorem dX5_renew_210 : decode cX5_renew 210 = .ok (.if_icmp .eq 10, 3) := by decide +kernel
theorem dX5_renew_213 : decode cX5_renew 213 = .ok (.iload 7, 2) := by decide +kernel
theorem dX5_renew_215 : decode cX5_renew 215 = .ok (.bipush (-4), 2) := by decide +kernel
theorem dX5_renew_217 : decode cX5_renew 217 = .ok (.if_icmp .ne 8, 3) := by decide +kernel
theorem dX5_renew_220 : decode cX5_renew 220 = .ok (.iload 7, 2) := by decide +kernel
theorem dX5_renew_222 : decode cX5_renew 222 = .ok (.goto 8, 3) := by decide +kernel
theorem dX5_renew_225 : decode cX5_renew 225 = .ok (.iload 7, 2) := by decide +kernel
theorem dX5_renew_227 : decode cX5_renew 227 = .ok (.invokestatic 189, 3) := by decide +kernel
theorem dX5_renew_230 : decode cX5_renew 230 = .ok (.ireturn, 1) := by decide +kernel
theorem dX5_pick_0 : decode cX5_pick 0 = .ok (.iload_n 0, 1) := by decide +kernel
theorem dX5_pick_1 : decode cX5_pick 1 = .ok (.istore_n 2, 1) := by decide +kernel
theorem dX5_pick_2 : decode cX5_pick 2 = .ok (.iconst 0, 1) := by decide +kernel
theorem dX5_pick_3 : decode cX5_pick 3 = .ok (.istore_n 3, 1) := by decide +kernel
theorem dX5_pick_4 : decode cX5_pick 4 = .ok (.iload_n 3, 1) := by decide +kernel
theorem dX5_pick_5 : decode cX5_pick 5 = .ok (.iload_n 1, 1) := by decide +kernel
theorem dX5_pick_6 : decode cX5_pick 6 = .ok (.if_icmp .ge 15, 3) := by decide +kernel
theorem dX5_pick_9 : decode cX5_pick 9 = .ok (.iload_n 2, 1) := by decide +kernel
theorem dX5_pick_10 : decode cX5_pick 10 = .ok (.iload_n 2, 1) := by decide +kernel
theorem dX5_pick_11 : decode cX5_pick 11 = .ok (.iconst 1, 1) := by decide +kernel
theorem dX5_pick_12 : decode cX5_pick 12 = .ok (.isub, 1) := by decide +kernel
theorem dX5_pick_13 : decode cX5_pick 13 = .ok (.iand, 1) := by decide +kernel
theorem dX5_pick_14 : decode cX5_pick 14 = .ok (.istore_n 2, 1) := by decide +kernel
theorem dX5_pick_15 : decode cX5_pick 15 = .ok (.iinc 3 1, 3) := by decide +kernel
theorem dX5_pick_18 : decode cX5_pick 18 = .ok (.goto (-14), 3) := by decide +kernel
theorem dX5_pick_21 : decode cX5_pick 21 = .ok (.iconst 0, 1) := by decide +kernel
theorem dX5_pick_22 : decode cX5_pick 22 = .ok (.istore_n 3, 1) := by decide +kernel
theorem dX5_pick_23 : decode cX5_pick 23 = .ok (.iload_n 2, 1) := by decide +kernel
theorem dX5_pick_24 : decode cX5_pick 24 = .ok (.iload_n 3, 1) := by decide +kernel
theorem dX5_pick_25 : decode cX5_pick 25 = .ok (.ishr, 1) := by decide +kernel
theorem dX5_pick_26 : decode cX5_pick 26 = .ok (.iconst 1, 1) := by decide +kernel
theorem dX5_pick_27 : decode cX5_pick 27 = .ok (.iand, 1) := by decide +kernel
theorem dX5_pick_28 : decode cX5_pick 28 = .ok (.ifCond .ne 9, 3) := by decide +kernel
theorem dX5_pick_31 : decode cX5_pick 31 = .ok (.iinc 3 1, 3) := by decide +kernel
theorem dX5_pick_34 : decode cX5_pick 34 = .ok (.goto (-11), 3) := by decide +kernel
theorem dX5_pick_37 : decode cX5_pick 37 = .ok (.iload_n 3, 1) := by decide +kernel
theorem dX5_pick_38 : decode cX5_pick 38 = .ok (.ireturn, 1) := by decide +kernel
set_option maxRecDepth 20000 in
theorem ggX5_sits_X5_pick : GoodIn wsX5_sits wsX5_pick := goodIn_r _ [5] (by decide +kernel) (by decide +kernel)
set_option maxRecDepth 20000 in
theorem gX5_sits_X5_pick : GoodIn wsX5_sits (va_wsS RX5 192 yX5_pick wsX5_pick) := goodIn_app (goodIn_of _ (by decide +kernel)) ggX5_sits_X5_pick
theorem dX5_sits_0 : decode cX5_sits 0 = .ok (.aload_n 0, 1) := by decide +kernel
theorem dX5_sits_1 : decode cX5_sits 1 = .ok (.getfield 7, 3) := by decide +kernel
theorem dX5_sits_4 : decode cX5_sits 4 = .ok (.iconst 0, 1) := by decide +kernel
theorem dX5_sits_5 : decode cX5_sits 5 = .ok (.iaload, 1) := by decide +kernel
theorem dX5_sits_6 : decode cX5_sits 6 = .ok (.istore_n 3, 1) := by decide +kernel
theorem dX5_sits_7 : decode cX5_sits 7 = .ok (.iconst 1, 1) := by decide +kernel
theorem dX5_sits_8 : decode cX5_sits 8 = .ok (.iload_n 3, 1) := by decide +kernel
theorem dX5_sits_9 : decode cX5_sits 9 = .ok (.ishl, 1) := by decide +kernel
theorem dX5_sits_10 : decode cX5_sits 10 = .ok (.iconst 2, 1) := by decide +kernel
theorem dX5_sits_11 : decode cX5_sits 11 = .ok (.isub, 1) := by decide +kernel
theorem dX5_sits_12 : decode cX5_sits 12 = .ok (.istore 4, 2) := by decide +kernel
theorem dX5_sits_14 : decode cX5_sits 14 = .ok (.iload_n 2, 1) := by decide +kernel
theorem dX5_sits_15 : decode cX5_sits 15 = .ok (.istore 5, 2) := by decide +kernel
theorem dX5_sits_17 : decode cX5_sits 17 = .ok (.iload_n 1, 1) := by decide +kernel
theorem dX5_sits_18 : decode cX5_sits 18 = .ok (.istore 6, 2) := by decide +kernel
theorem dX5_sits_20 : decode cX5_sits 20 = .ok (.aload_n 0, 1) := by decide +kernel
theorem dX5_sits_21 : decode cX5_sits 21 = .ok (.getfield 7, 3) := by decide +kernel
theorem dX5_sits_24 : decode cX5_sits 24 = .ok (.bipush 11, 2) := by decide +kernel
theorem dX5_sits_26 : decode cX5_sits 26 = .ok (.iconst 0, 1) := by decide +kernel
theorem dX5_sits_27 : decode cX5_sits 27 = .ok (.iastore, 1) := by decide +kernel
theorem dX5_sits_28 : decode cX5_sits 28 = .ok (.iconst 1, 1) := by decide +kernel
theorem dX5_sits_29 : decode cX5_sits 29 = .ok (.istore 7, 2) := by decide +kernel
theorem dX5_sits_31 : decode cX5_sits 31 = .ok (.iload 7, 2) := by decide +kernel
theorem dX5_sits_33 : decode cX5_sits 33 = .ok (.iload_n 3, 1) := by decide +kernel
theorem dX5_sits_34 : decode cX5_sits 34 = .ok (.if_icmp .ge 60, 3) := by decide +kernel
theorem dX5_sits_37 : decode cX5_sits 37 = .ok (.iload 5, 2) := by decide +kernel
theorem dX5_sits_39 : decode cX5_sits 39 = .ok (.iload_n 3, 1) := by decide +kernel
theorem dX5_sits_40 : decode cX5_sits 40 = .ok (.iload 7, 2) := by decide +kernel
theorem dX5_sits_42 : decode cX5_sits 42 = .ok (.isub, 1) := by decide +kernel
theorem dX5_sits_43 : decode cX5_sits 43 = .ok (.idiv, 1) := by decide +kernel
theorem dX5_sits_44 : decode cX5_sits 44 = .ok (.istore 5, 2) := by decide +kernel
theorem dX5_sits_46 : decode cX5_sits 46 = .ok (.iload 4, 2) := by decide +kernel
theorem dX5_sits_48 : decode cX5_sits 48 = .ok (.iload 6, 2) := by decide +kernel
theorem dX5_sits_50 : decode cX5_sits 50 = .ok (.iload 5, 2) := by decide +kernel
theorem dX5_sits_52 : decode cX5_sits 52 = .ok (.idiv, 1) := by decide +kernel
theorem dX5_sits_53 : decode cX5_sits 53 = .ok (.invokestatic 192, 3) := by decide +kernel
theorem dX5_sits_56 : decode cX5_sits 56 = .ok (.istore 8, 2) := by decide +kernel
theorem dX5_sits_58 : decode cX5_sits 58 = .ok (.iload 6, 2) := by decide +kernel
theorem dX5_sits_60 : decode cX5_sits 60 = .ok (.iload 5, 2) := by decide +kernel
theorem dX5_sits_62 : decode cX5_sits 62 = .ok (.irem, 1) := by decide +kernel
theorem dX5_sits_63 : decode cX5_sits 63 = .ok (.istore 6, 2) := by decide +kernel
theorem dX5_sits_65 : decode cX5_sits 65 = .ok (.iload 4, 2) := by decide +kernel
theorem dX5_sits_67 : decode cX5_sits 67 = .ok (.iconst 1, 1) := by decide +kernel
theorem dX5_sits_68 : decode cX5_sits 68 = .ok (.iload 8, 2) := by decide +kernel
theorem dX5_sits_70 : decode cX5_sits 70 = .ok (.ishl, 1) := by decide +kernel
theorem dX5_sits_71 : decode cX5_sits 71 = .ok (.iconst (-1), 1) := by decide +kernel
theorem dX5_sits_72 : decode cX5_sits 72 = .ok (.ixor, 1) := by decide +kernel
theorem dX5_sits_73 : decode cX5_sits 73 = .ok (.iand, 1) := by decide +kernel
theorem dX5_sits_74 : decode cX5_sits 74 = .ok (.istore 4, 2) := by decide +kernel
theorem dX5_sits_76 : decode cX5_sits 76 = .ok (.aload_n 0, 1) := by decide +kernel
theorem dX5_sits_77 : decode cX5_sits 77 = .ok (.getfield 7, 3) := by decide +kernel
theorem dX5_sits_80 : decode cX5_sits 80 = .ok (.bipush 11, 2) := by decide +kernel
theorem dX5_sits_82 : decode cX5_sits 82 = .ok (.iload 7, 2) := by decide +kernel
theorem dX5_sits_84 : decode cX5_sits 84 = .ok (.iadd, 1) := by decide +kernel
theorem dX5_sits_85 : decode cX5_sits 85 = .ok (.iload 8, 2) := by decide +kernel
theorem dX5_sits_87 : decode cX5_sits 87 = .ok (.iastore, 1) := by decide +kernel
theorem dX5_sits_88 : decode cX5_sits 88 = .ok (.iinc 7 1, 3) := by decide +kernel
theorem dX5_sits_91 : decode cX5_sits 91 = .ok (.goto (-60), 3) := by decide +kernel
theorem dX5_sits_94 : decode cX5_sits 94 = .ok (.return_, 1) := by decide +kernel
set_option maxRecDepth 20000 in
theorem ggX5_table_X5_in : GoodIn wsX5_table wsX5_in := goodIn_r _ [6] (by decide +kernel) (by decide +kernel)
set_option maxRecDepth 20000 in
theorem gX5_table_X5_in : GoodIn wsX5_table (va_wsS RX5 44 yX5_in wsX5_in) := goodIn_app (goodIn_of _ (by decide +kernel)) ggX5_table_X5_in
set_option maxRecDepth 20000 in
theorem ggX5_table_X5_isHeat : GoodIn wsX5_table wsX5_isHeat := goodIn_r _ [9, 10, 3, 4, 5, 6] (by decide +kernel) (by decide +kernel)
set_option maxRecDepth 20000 in
theorem gX5_table_X5_isHeat : GoodIn wsX5_table (va_wsS RX5 162 yX5_isHeat wsX5_isHeat) := goodIn_app (goodIn_of _ (by decide +kernel)) ggX5_table_X5_isHeat
set_option maxRecDepth 20000 in
theorem ggX5_table_X5_asides : GoodIn wsX5_table wsX5_asides := goodIn_r _ [14, 15, 2, 72, 73, 74, 75, 76, 77, 78, 79, 80, 81, 82, 83, 84, 85, 86, 87, 88] (by decide +kernel) (by decide +kernel)
set_option maxRecDepth 20000 in
theorem gX5_table_X5_asides : GoodIn wsX5_table (wsV RX5 174 RX5 yX5_asides wsX5_asides) := goodIn_app (goodIn_of _ (by decide +kernel)) ggX5_table_X5_asides
set_option maxRecDepth 20000 in
theorem ggX5_table_X5_sits : GoodIn wsX5_table wsX5_sits := goodIn_r _ [19, 2, 20, 21, 5, 22, 72, 73, 74, 75, 76, 77, 78, 79, 80, 81, 82, 83, 84, 85, 86, 87, 88] (by decide +kernel) (by decide +kernel)
set_option maxRecDepth 20000 in
theorem gX5_table_X5_sits : GoodIn wsX5_table (wsV RX5 197 RX5 yX5_sits wsX5_sits) := goodIn_app (goodIn_of _ (by decide +kernel)) ggX5_table_X5_sits
set_option maxRecDepth 20000 in
theorem ggX5_table_X5_leaksIn : GoodIn wsX5_table wsX5_leaksIn := goodIn_r _ [26, 27, 28, 29, 5, 30, 2, 31, 32, 33, 34, 35, 36, 37, 38, 39, 40, 41, 42, 43, 44, 45, 46, 47, 48, 49, 50, 51, 52, 53, 54, 55, 56, 57, 58, 59, 60, 61, 62, 63, 64, 65, 66, 67, 68, 69, 70, 71, 15, 72, 73, 74, 75, 76, 77, 78, 79, 80, 81, 82, 83, 84, 85, 86, 87, 88] (by decide +kernel) (by decide +kernel)
set_option maxRecDepth 20000 in
theorem gX5_table_X5_leaksIn : GoodIn wsX5_table (wsV RX5 184 RX5 yX5_leaksIn wsX5_leaksIn) := goodIn_app (goodIn_of _ (by decide +kernel)) ggX5_table_X5_leaksIn
set_option maxRecDepth 20000 in
theorem ggX5_table_X5_backs : GoodIn wsX5_table wsX5_backs := goodIn_r _ [71, 2, 15, 72, 73, 74, 75, 76, 77, 78, 79, 80, 81, 82, 83, 84, 85, 86, 87, 88] (by decide +kernel) (by decide +kernel)
set_option maxRecDepth 20000 in
theorem gX5_table_X5_backs : GoodIn wsX5_table (wsV RX5 181 RX5 yX5_backs wsX5_backs) := goodIn_app (goodIn_of _ (by decide +kernel)) ggX5_table_X5_backs
theorem dX5_table_0 : decode cX5_table 0 = .ok (.iload_n 1, 1) := by decide +kernel
theorem dX5_table_1 : decode cX5_table 1 = .ok (.i2l, 1) := by decide +kernel
theorem dX5_table_2 : decode cX5_table 2 = .ok (.lconst 1, 1) := by decide +kernel
theorem dX5_table_3 : decode cX5_table 3 = .ok (.ldc2_w 195, 3) := by decide +kernel
theorem dX5_table_6 : decode cX5_table 6 = .ok (.invokestatic 44, 3) := by decide +kernel
theorem dX5_table_9 : decode cX5_table 9 = .ok (.ifCond .eq 15, 3) := by decide +kernel
theorem dX5_table_12 : decode cX5_table 12 = .ok (.iload_n 2, 1) := by decide +kernel
theorem dX5_table_13 : decode cX5_table 13 = .ok (.invokestatic 162, 3) := by decide +kernel
theorem dX5_table_16 : decode cX5_table 16 = .ok (.ifCond .eq 8, 3) := by decide +kernel
theorem dX5_table_19 : decode cX5_table 19 = .ok (.iload_n 3, 1) := by decide +kernel
theorem dX5_table_20 : decode cX5_table 20 = .ok (.iconst (-1), 1) := by decide +kernel
theorem dX5_table_21 : decode cX5_table 21 = .ok (.if_icmp .ge 5, 3) := by decide +kernel
theorem dX5_table_24 : decode cX5_table 24 = .ok (.iconst (-1), 1) := by decide +kernel
theorem dX5_table_25 : decode cX5_table 25 = .ok (.ireturn, 1) := by decide +kernel
theorem dX5_table_26 : decode cX5_table 26 = .ok (.iconst 1, 1) := by decide +kernel
theorem dX5_table_27 : decode cX5_table 27 = .ok (.istore 4, 2) := by decide +kernel
theorem dX5_table_29 : decode cX5_table 29 = .ok (.iconst 2, 1) := by decide +kernel
theorem dX5_table_30 : decode cX5_table 30 = .ok (.istore 5, 2) := by decide +kernel
theorem dX5_table_32 : decode cX5_table 32 = .ok (.iload 5, 2) := by decide +kernel
theorem dX5_table_34 : decode cX5_table 34 = .ok (.aload_n 0, 1) := by decide +kernel
theorem dX5_table_35 : decode cX5_table 35 = .ok (.getfield 7, 3) := by decide +kernel
theorem dX5_table_38 : decode cX5_table 38 = .ok (.iconst 0, 1) := by decide +kernel
theorem dX5_table_39 : decode cX5_table 39 = .ok (.iaload, 1) := by decide +kernel
theorem dX5_table_40 : decode cX5_table 40 = .ok (.if_icmp .ge 16, 3) := by decide +kernel
theorem dX5_table_43 : decode cX5_table 43 = .ok (.iload 4, 2) := by decide +kernel
theorem dX5_table_45 : decode cX5_table 45 = .ok (.iload 5, 2) := by decide +kernel
theorem dX5_table_47 : decode cX5_table 47 = .ok (.imul, 1) := by decide +kernel
theorem dX5_table_48 : decode cX5_table 48 = .ok (.istore 4, 2) := by decide +kernel
theorem dX5_table_50 : decode cX5_table 50 = .ok (.iinc 5 1, 3) := by decide +kernel
theorem dX5_table_53 : decode cX5_table 53 = .ok (.goto (-21), 3) := by decide +kernel
theorem dX5_table_56 : decode cX5_table 56 = .ok (.aload_n 0, 1) := by decide +kernel
theorem dX5_table_57 : decode cX5_table 57 = .ok (.getfield 7, 3) := by decide +kernel
theorem dX5_table_60 : decode cX5_table 60 = .ok (.iconst 0, 1) := by decide +kernel
theorem dX5_table_61 : decode cX5_table 61 = .ok (.iaload, 1) := by decide +kernel
theorem dX5_table_62 : decode cX5_table 62 = .ok (.ifCond .ne 14, 3) := by decide +kernel
theorem dX5_table_65 : decode cX5_table 65 = .ok (.iload_n 3, 1) := by decide +kernel
theorem dX5_table_66 : decode cX5_table 66 = .ok (.ifCond .ge 7, 3) := by decide +kernel
theorem dX5_table_69 : decode cX5_table 69 = .ok (.iconst 0, 1) := by decide +kernel
theorem dX5_table_70 : decode cX5_table 70 = .ok (.goto 5, 3) := by decide +kernel
theorem dX5_table_73 : decode cX5_table 73 = .ok (.bipush (-4), 2) := by decide +kernel
theorem dX5_table_75 : decode cX5_table 75 = .ok (.ireturn, 1) := by decide +kernel
theorem dX5_table_76 : decode cX5_table 76 = .ok (.aload_n 0, 1) := by decide +kernel
theorem dX5_table_77 : decode cX5_table 77 = .ok (.invokevirtual 174, 3) := by decide +kernel
theorem dX5_table_80 : decode cX5_table 80 = .ok (.iconst 0, 1) := by decide +kernel
theorem dX5_table_81 : decode cX5_table 81 = .ok (.istore 5, 2) := by decide +kernel
theorem dX5_table_83 : decode cX5_table 83 = .ok (.iconst (-1), 1) := by decide +kernel
theorem dX5_table_84 : decode cX5_table 84 = .ok (.istore 6, 2) := by decide +kernel
theorem dX5_table_86 : decode cX5_table 86 = .ok (.iconst 0, 1) := by decide +kernel
theorem dX5_table_87 : decode cX5_table 87 = .ok (.istore 7, 2) := by decide +kernel
theorem dX5_table_89 : decode cX5_table 89 = .ok (.iload 7, 2) := by decide +kernel
theorem dX5_table_91 : decode cX5_table 91 = .ok (.iload 4, 2) := by decide +kernel
theorem dX5_table_93 : decode cX5_table 93 = .ok (.if_icmp .ge 67, 3) := by decide +kernel
theorem dX5_table_96 : decode cX5_table 96 = .ok (.aload_n 0, 1) := by decide +kernel
theorem dX5_table_97 : decode cX5_table 97 = .ok (.iload 7, 2) := by decide +kernel
theorem dX5_table_99 : decode cX5_table 99 = .ok (.iload 4, 2) := by decide +kernel
theorem dX5_table_101 : decode cX5_table 101 = .ok (.invokevirtual 197, 3) := by decide +kernel
theorem dX5_table_104 : decode cX5_table 104 = .ok (.aload_n 0, 1) := by decide +kernel
theorem dX5_table_105 : decode cX5_table 105 = .ok (.iload_n 1, 1) := by decide +kernel
theorem dX5_table_106 : decode cX5_table 106 = .ok (.iload_n 2, 1) := by decide +kernel
theorem dX5_table_107 : decode cX5_table 107 = .ok (.invokevirtual 184, 3) := by decide +kernel
theorem dX5_table_110 : decode cX5_table 110 = .ok (.istore 8, 2) := by decide +kernel
theorem dX5_table_112 : decode cX5_table 112 = .ok (.iload 6, 2) := by decide +kernel
theorem dX5_table_114 : decode cX5_table 114 = .ok (.ifCond .lt 10, 3) := by decide +kernel
theorem dX5_table_117 : decode cX5_table 117 = .ok (.iload 8, 2) := by decide +kernel
theorem dX5_table_119 : decode cX5_table 119 = .ok (.iload 6, 2) := by decide +kernel
theorem dX5_table_121 : decode cX5_table 121 = .ok (.if_icmp .ge 8, 3) := by decide +kernel
theorem dX5_table_124 : decode cX5_table 124 = .ok (.iload 7, 2) := by decide +kernel
theorem dX5_table_126 : decode cX5_table 126 = .ok (.goto 5, 3) := by decide +kernel
theorem dX5_table_129 : decode cX5_table 129 = .ok (.iload 5, 2) := by decide +kernel
theorem dX5_table_131 : decode cX5_table 131 = .ok (.istore 5, 2) := by decide +kernel
theorem dX5_table_133 : decode cX5_table 133 = .ok (.iload 6, 2) := by decide +kernel
theorem dX5_table_135 : decode cX5_table 135 = .ok (.ifCond .lt 10, 3) := by decide +kernel
theorem dX5_table_138 : decode cX5_table 138 = .ok (.iload 8, 2) := by decide +kernel
theorem dX5_table_140 : decode cX5_table 140 = .ok (.iload 6, 2) := by decide +kernel
theorem dX5_table_142 : decode cX5_table 142 = .ok (.if_icmp .ge 8, 3) := by decide +kernel
theorem dX5_table_145 : decode cX5_table 145 = .ok (.iload 8, 2) := by decide +kernel
theorem dX5_table_147 : decode cX5_table 147 = .ok (.goto 5, 3) := by decide +kernel
theorem dX5_table_150 : decode cX5_table 150 = .ok (.iload 6, 2) := by decide +kernel
theorem dX5_table_152 : decode cX5_table 152 = .ok (.istore 6, 2) := by decide +kernel
theorem dX5_table_154 : decode cX5_table 154 = .ok (.iinc 7 1, 3) := by decide +kernel
theorem dX5_table_157 : decode cX5_table 157 = .ok (.goto (-68), 3) := by decide +kernel
theorem dX5_table_160 : decode cX5_table 160 = .ok (.iload_n 3, 1) := by decide +kernel
theorem dX5_table_161 : decode cX5_table 161 = .ok (.ifCond .ge 6, 3) := by decide +kernel
theorem dX5_table_164 : decode cX5_table 164 = .ok (.iload 6, 2) := by decide +kernel
theorem dX5_table_166 : decode cX5_table 166 = .ok (.ireturn, 1) := by decide +kernel
theorem dX5_table_167 : decode cX5_table 167 = .ok (.aload_n 0, 1) := by decide +kernel
theorem dX5_table_168 : decode cX5_table 168 = .ok (.iload 5, 2) := by decide +kernel
theorem dX5_table_170 : decode cX5_table 170 = .ok (.iload 4, 2) := by decide +kernel
theorem dX5_table_172 : decode cX5_table 172 = .ok (.invokevirtual 197, 3) := by decide +kernel
theorem dX5_table_175 : decode cX5_table 175 = .ok (.iload_n 3, 1) := by decide +kernel
theorem dX5_table_176 : decode cX5_table 176 = .ok (.aload_n 0, 1) := by decide +kernel
theorem dX5_table_177 : decode cX5_table 177 = .ok (.getfield 7, 3) := by decide +kernel
theorem dX5_table_180 : decode cX5_table 180 = .ok (.iconst 0, 1) := by decide +kernel
theorem dX5_table_181 : decode cX5_table 181 = .ok (.iaload, 1) := by decide +kernel
theorem dX5_table_182 : decode cX5_table 182 = .ok (.if_icmp .ge 15, 3) := by decide +kernel
theorem dX5_table_185 : decode cX5_table 185 = .ok (.aload_n 0, 1) := by decide +kernel
theorem dX5_table_186 : decode cX5_table 186 = .ok (.getfield 7, 3) := by decide +kernel
theorem dX5_table_189 : decode cX5_table 189 = .ok (.bipush 11, 2) := by decide +kernel
theorem dX5_table_191 : decode cX5_table 191 = .ok (.iload_n 3, 1) := by decide +kernel
theorem dX5_table_192 : decode cX5_table 192 = .ok (.iadd, 1) := by decide +kernel
theorem dX5_table_193 : decode cX5_table 193 = .ok (.iaload, 1) := by decide +kernel
theorem dX5_table_194 : decode cX5_table 194 = .ok (.goto 5, 3) := by decide +kernel
theorem dX5_table_197 : decode cX5_table 197 = .ok (.bipush (-4), 2) := by decide +kernel
theorem dX5_table_199 : decode cX5_table 199 = .ok (.istore 7, 2) := by decide +kernel
theorem dX5_table_201 : decode cX5_table 201 = .ok (.aload_n 0, 1) := by decide +kernel
theorem dX5_table_202 : decode cX5_table 202 = .ok (.invokevirtual 181, 3) := by decide +kernel
theorem dX5_table_205 : decode cX5_table 205 = .ok (.iload 7, 2) := by decide +kernel
theorem dX5_table_207 : decode cX5_table 207 = .ok (.ireturn, 1) := by decide +kernel
set_option maxRecDepth 20000 in
theorem ggX5_rivals_X5_in : GoodIn wsX5_rivals wsX5_in := goodIn_r _ [5] (by decide +kernel) (by decide +kernel)
set_option maxRecDepth 20000 in
theorem gX5_rivals_X5_in : GoodIn wsX5_rivals (va_wsS RX5 44 yX5_in wsX5_in) := goodIn_app (goodIn_of _ (by decide +kernel)) ggX5_rivals_X5_in
set_option maxRecDepth 20000 in
theorem ggX5_rivals_X5_things : GoodIn wsX5_rivals wsX5_things := goodIn_r _ [9, 10, 11, 12, 4, 13, 1, 14, 15, 16, 17, 18, 19, 20, 21, 22, 23, 24, 25, 26, 27, 28, 29, 30, 31, 32, 33, 34] (by decide +kernel) (by decide +kernel)
set_option maxRecDepth 20000 in
theorem gX5_rivals_X5_things : GoodIn wsX5_rivals (wsV RX5 86 RX5 yX5_things wsX5_things) := goodIn_app (goodIn_of _ (by decide +kernel)) ggX5_rivals_X5_things
theorem dX5_rivals_0 : decode cX5_rivals 0 = .ok (.iload_n 1, 1) := by decide +kernel
theorem dX5_rivals_1 : decode cX5_rivals 1 = .ok (.i2l, 1) := by decide +kernel
theorem dX5_rivals_2 : decode cX5_rivals 2 = .ok (.lconst 0, 1) := by decide +kernel
theorem dX5_rivals_3 : decode cX5_rivals 3 = .ok (.lconst 1, 1) := by decide +kernel
theorem dX5_rivals_4 : decode cX5_rivals 4 = .ok (.invokestatic 44, 3) := by decide +kernel
theorem dX5_rivals_7 : decode cX5_rivals 7 = .ok (.ifCond .ne 5, 3) := by decide +kernel
theorem dX5_rivals_10 : decode cX5_rivals 10 = .ok (.iconst (-1), 1) := by decide +kernel
theorem dX5_rivals_11 : decode cX5_rivals 11 = .ok (.ireturn, 1) := by decide +kernel
theorem dX5_rivals_12 : decode cX5_rivals 12 = .ok (.iconst 0, 1) := by decide +kernel
theorem dX5_rivals_13 : decode cX5_rivals 13 = .ok (.istore_n 2, 1) := by decide +kernel
theorem dX5_rivals_14 : decode cX5_rivals 14 = .ok (.bipush (-4), 2) := by decide +kernel
theorem dX5_rivals_16 : decode cX5_rivals 16 = .ok (.istore_n 3, 1) := by decide +kernel
theorem dX5_rivals_17 : decode cX5_rivals 17 = .ok (.iconst 0, 1) := by decide +kernel
theorem dX5_rivals_18 : decode cX5_rivals 18 = .ok (.istore 4, 2) := by decide +kernel
theorem dX5_rivals_20 : decode cX5_rivals 20 = .ok (.iload 4, 2) := by decide +kernel
theorem dX5_rivals_22 : decode cX5_rivals 22 = .ok (.aload_n 0, 1) := by decide +kernel
theorem dX5_rivals_23 : decode cX5_rivals 23 = .ok (.getfield 7, 3) := by decide +kernel
theorem dX5_rivals_26 : decode cX5_rivals 26 = .ok (.iconst 0, 1) := by decide +kernel
theorem dX5_rivals_27 : decode cX5_rivals 27 = .ok (.iaload, 1) := by decide +kernel
theorem dX5_rivals_28 : decode cX5_rivals 28 = .ok (.if_icmp .ge 101, 3) := by decide +kernel
theorem dX5_rivals_31 : decode cX5_rivals 31 = .ok (.iload 4, 2) := by decide +kernel
theorem dX5_rivals_33 : decode cX5_rivals 33 = .ok (.iconst 1, 1) := by decide +kernel
theorem dX5_rivals_34 : decode cX5_rivals 34 = .ok (.iadd, 1) := by decide +kernel
theorem dX5_rivals_35 : decode cX5_rivals 35 = .ok (.istore 5, 2) := by decide +kernel
theorem dX5_rivals_37 : decode cX5_rivals 37 = .ok (.iload 5, 2) := by decide +kernel
theorem dX5_rivals_39 : decode cX5_rivals 39 = .ok (.aload_n 0, 1) := by decide +kernel
theorem dX5_rivals_40 : decode cX5_rivals 40 = .ok (.getfield 7, 3) := by decide +kernel
theorem dX5_rivals_43 : decode cX5_rivals 43 = .ok (.iconst 0, 1) := by decide +kernel
theorem dX5_rivals_44 : decode cX5_rivals 44 = .ok (.iaload, 1) := by decide +kernel
theorem dX5_rivals_45 : decode cX5_rivals 45 = .ok (.if_icmp .ge 78, 3) := by decide +kernel
theorem dX5_rivals_48 : decode cX5_rivals 48 = .ok (.aload_n 0, 1) := by decide +kernel
theorem dX5_rivals_49 : decode cX5_rivals 49 = .ok (.iload 4, 2) := by decide +kernel
theorem dX5_rivals_51 : decode cX5_rivals 51 = .ok (.iconst 0, 1) := by decide +kernel
theorem dX5_rivals_52 : decode cX5_rivals 52 = .ok (.invokevirtual 86, 3) := by decide +kernel
theorem dX5_rivals_55 : decode cX5_rivals 55 = .ok (.ifCond .eq 24, 3) := by decide +kernel
theorem dX5_rivals_58 : decode cX5_rivals 58 = .ok (.aload_n 0, 1) := by decide +kernel
theorem dX5_rivals_59 : decode cX5_rivals 59 = .ok (.iload 4, 2) := by decide +kernel
theorem dX5_rivals_61 : decode cX5_rivals 61 = .ok (.iconst 0, 1) := by decide +kernel
theorem dX5_rivals_62 : decode cX5_rivals 62 = .ok (.invokevirtual 86, 3) := by decide +kernel
theorem dX5_rivals_65 : decode cX5_rivals 65 = .ok (.aload_n 0, 1) := by decide +kernel
theorem dX5_rivals_66 : decode cX5_rivals 66 = .ok (.iload 5, 2) := by decide +kernel
theorem dX5_rivals_68 : decode cX5_rivals 68 = .ok (.iconst 0, 1) := by decide +kernel
theorem dX5_rivals_69 : decode cX5_rivals 69 = .ok (.invokevirtual 86, 3) := by decide +kernel
theorem dX5_rivals_72 : decode cX5_rivals 72 = .ok (.if_icmp .ne 7, 3) := by decide +kernel
theorem dX5_rivals_75 : decode cX5_rivals 75 = .ok (.iconst 1, 1) := by decide +kernel
theorem dX5_rivals_76 : decode cX5_rivals 76 = .ok (.goto 4, 3) := by decide +kernel
theorem dX5_rivals_79 : decode cX5_rivals 79 = .ok (.iconst 0, 1) := by decide +kernel
theorem dX5_rivals_80 : decode cX5_rivals 80 = .ok (.istore 6, 2) := by decide +kernel
theorem dX5_rivals_82 : decode cX5_rivals 82 = .ok (.iload 6, 2) := by decide +kernel
theorem dX5_rivals_84 : decode cX5_rivals 84 = .ok (.ifCond .eq 18, 3) := by decide +kernel
theorem dX5_rivals_87 : decode cX5_rivals 87 = .ok (.iload_n 2, 1) := by decide +kernel
theorem dX5_rivals_88 : decode cX5_rivals 88 = .ok (.ifCond .ne 14, 3) := by decide +kernel
theorem dX5_rivals_91 : decode cX5_rivals 91 = .ok (.bipush 10, 2) := by decide +kernel
theorem dX5_rivals_93 : decode cX5_rivals 93 = .ok (.iload 4, 2) := by decide +kernel
theorem dX5_rivals_95 : decode cX5_rivals 95 = .ok (.imul, 1) := by decide +kernel
theorem dX5_rivals_96 : decode cX5_rivals 96 = .ok (.iload 5, 2) := by decide +kernel
theorem dX5_rivals_98 : decode cX5_rivals 98 = .ok (.iadd, 1) := by decide +kernel
theorem dX5_rivals_99 : decode cX5_rivals 99 = .ok (.goto 4, 3) := by decide +kernel
theorem dX5_rivals_102 : decode cX5_rivals 102 = .ok (.iload_n 3, 1) := by decide +kernel
theorem dX5_rivals_103 : decode cX5_rivals 103 = .ok (.istore_n 3, 1) := by decide +kernel
theorem dX5_rivals_104 : decode cX5_rivals 104 = .ok (.iload_n 2, 1) := by decide +kernel
theorem dX5_rivals_105 : decode cX5_rivals 105 = .ok (.iload 6, 2) := by decide +kernel
theorem dX5_rivals_107 : decode cX5_rivals 107 = .ok (.ifCond .eq 7, 3) := by decide +kernel
theorem dX5_rivals_110 : decode cX5_rivals 110 = .ok (.iconst 1, 1) := by decide +kernel
theorem dX5_rivals_111 : decode cX5_rivals 111 = .ok (.goto 4, 3) := by decide +kernel
theorem dX5_rivals_114 : decode cX5_rivals 114 = .ok (.iconst 0, 1) := by decide +kernel
theorem dX5_rivals_115 : decode cX5_rivals 115 = .ok (.iadd, 1) := by decide +kernel
theorem dX5_rivals_116 : decode cX5_rivals 116 = .ok (.istore_n 2, 1) := by decide +kernel
theorem dX5_rivals_117 : decode cX5_rivals 117 = .ok (.iinc 5 1, 3) := by decide +kernel
theorem dX5_rivals_120 : decode cX5_rivals 120 = .ok (.goto (-83), 3) := by decide +kernel
theorem dX5_rivals_123 : decode cX5_rivals 123 = .ok (.iinc 4 1, 3) := by decide +kernel
theorem dX5_rivals_126 : decode cX5_rivals 126 = .ok (.goto (-106), 3) := by decide +kernel
theorem dX5_rivals_129 : decode cX5_rivals 129 = .ok (.iload_n 1, 1) := by decide +kernel
theorem dX5_rivals_130 : decode cX5_rivals 130 = .ok (.ifCond .ne 7, 3) := by decide +kernel
theorem dX5_rivals_133 : decode cX5_rivals 133 = .ok (.iload_n 2, 1) := by decide +kernel
theorem dX5_rivals_134 : decode cX5_rivals 134 = .ok (.goto 4, 3) := by decide +kernel
theorem dX5_rivals_137 : decode cX5_rivals 137 = .ok (.iload_n 3, 1) := by decide +kernel
theorem dX5_rivals_138 : decode cX5_rivals 138 = .ok (.ireturn, 1) := by decide +kernel
set_option maxRecDepth 20000 in
theorem ggX5_from_X5_isThing : GoodIn wsX5_from wsX5_isThing := goodIn_r _ [6, 7, 8, 9, 5, 10] (by decide +kernel) (by decide +kernel)
set_option maxRecDepth 20000 in
theorem gX5_from_X5_isThing : GoodIn wsX5_from (va_wsS RX5 96 yX5_isThing wsX5_isThing) := goodIn_app (goodIn_of _ (by decide +kernel)) ggX5_from_X5_isThing
set_option maxRecDepth 20000 in
theorem ggX5_from_X5_in : GoodIn wsX5_from wsX5_in := goodIn_r _ [10] (by decide +kernel) (by decide +kernel)
set_option maxRecDepth 20000 in
theorem gX5_from_X5_in : GoodIn wsX5_from (va_wsS RX5 44 yX5_in wsX5_in) := goodIn_app (goodIn_of _ (by decide +kernel)) ggX5_from_X5_in
set_option maxRecDepth 20000 in
theorem ggX5_from_X5_isHeat : GoodIn wsX5_from wsX5_isHeat := goodIn_r _ [13, 14, 8, 9, 5, 10] (by decide +kernel) (by decide +kernel)
set_option maxRecDepth 20000 in
theorem gX5_from_X5_isHeat : GoodIn wsX5_from (va_wsS RX5 162 yX5_isHeat wsX5_isHeat) := goodIn_app (goodIn_of _ (by decide +kernel)) ggX5_from_X5_isHeat
set_option maxRecDepth 20000 in
theorem ggX5_from_X5_asides : GoodIn wsX5_from wsX5_asides := goodIn_r _ [18, 19, 2, 65, 66, 67, 68, 69, 70, 71, 72, 73, 74, 75, 76, 77, 78, 79, 80, 81] (by decide +kernel) (by decide +kernel)
set_option maxRecDepth 20000 in
theorem gX5_from_X5_asides : GoodIn wsX5_from (wsV RX5 174 RX5 yX5_asides wsX5_asides) := goodIn_app (goodIn_of _ (by decide +kernel)) ggX5_from_X5_asides
set_option maxRecDepth 20000 in
theorem ggX5_from_X5_isOut : GoodIn wsX5_from wsX5_isOut := goodIn_r _ [23, 2, 24, 25, 26, 5, 27, 28, 29, 30, 31, 32, 33, 34, 35, 65, 66, 67, 68, 69, 70, 71, 72, 73, 74, 75, 76, 77, 78, 79, 80, 81] (by decide +kernel) (by decide +kernel)
set_option maxRecDepth 20000 in
theorem gX5_from_X5_isOut : GoodIn wsX5_from (wsV RX5 67 RX5 yX5_isOut wsX5_isOut) := goodIn_app (goodIn_of _ (by decide +kernel)) ggX5_from_X5_isOut
set_option maxRecDepth 20000 in
theorem ggX5_from_X5_goesBy : GoodIn wsX5_from wsX5_goesBy := goodIn_r _ [39, 2, 40, 41, 42, 43, 5, 44, 32, 33, 34, 35, 45, 46, 47, 48, 49, 50, 51, 52, 53, 54, 55, 56, 28, 29, 30, 31, 57, 58, 59, 60, 65, 66, 67, 68, 69, 70, 71, 72, 73, 74, 75, 76, 77, 78, 79, 80, 81] (by decide +kernel) (by decide +kernel)
set_option maxRecDepth 20000 in
theorem gX5_from_X5_goesBy : GoodIn wsX5_from (wsV RX5 154 RX5 yX5_goesBy wsX5_goesBy) := goodIn_app (goodIn_of _ (by decide +kernel)) ggX5_from_X5_goesBy
set_option maxRecDepth 20000 in
theorem ggX5_from_X5_backs : GoodIn wsX5_from wsX5_backs := goodIn_r _ [64, 2, 19, 65, 66, 67, 68, 69, 70, 71, 72, 73, 74, 75, 76, 77, 78, 79, 80, 81] (by decide +kernel) (by decide +kernel)
set_option maxRecDepth 20000 in
theorem gX5_from_X5_backs : GoodIn wsX5_from (wsV RX5 181 RX5 yX5_backs wsX5_backs) := goodIn_app (goodIn_of _ (by decide +kernel)) ggX5_from_X5_backs
theorem dX5_from_0 : decode cX5_from 0 = .ok (.iload_n 1, 1) := by decide +kernel
theorem dX5_from_1 : decode cX5_from 1 = .ok (.invokestatic 96, 3) := by decide +kernel
theorem dX5_from_4 : decode cX5_from 4 = .ok (.ifCond .eq 22, 3) := by decide +kernel
theorem dX5_from_7 : decode cX5_from 7 = .ok (.iload_n 2, 1) := by decide +kernel
theorem dX5_from_8 : decode cX5_from 8 = .ok (.i2l, 1) := by decide +kernel
theorem dX5_from_9 : decode cX5_from 9 = .ok (.lconst 0, 1) := by decide +kernel
theorem dX5_from_10 : decode cX5_from 10 = .ok (.ldc2_w 172, 3) := by decide +kernel
theorem dX5_from_13 : decode cX5_from 13 = .ok (.invokestatic 44, 3) := by decide +kernel
theorem dX5_from_16 : decode cX5_from 16 = .ok (.ifCond .eq 10, 3) := by decide +kernel
theorem dX5_from_19 : decode cX5_from 19 = .ok (.iload_n 3, 1) := by decide +kernel
theorem dX5_from_20 : decode cX5_from 20 = .ok (.invokestatic 162, 3) := by decide +kernel
theorem dX5_from_23 : decode cX5_from 23 = .ok (.ifCond .ne 5, 3) := by decide +kernel
theorem dX5_from_26 : decode cX5_from 26 = .ok (.iconst (-1), 1) := by decide +kernel
theorem dX5_from_27 : decode cX5_from 27 = .ok (.ireturn, 1) := by decide +kernel
theorem dX5_from_28 : decode cX5_from 28 = .ok (.iconst 0, 1) := by decide +kernel
theorem dX5_from_29 : decode cX5_from 29 = .ok (.istore 4, 2) := by decide +kernel
theorem dX5_from_31 : decode cX5_from 31 = .ok (.aload_n 0, 1) := by decide +kernel
theorem dX5_from_32 : decode cX5_from 32 = .ok (.invokevirtual 174, 3) := by decide +kernel
theorem dX5_from_35 : decode cX5_from 35 = .ok (.iconst 0, 1) := by decide +kernel
theorem dX5_from_36 : decode cX5_from 36 = .ok (.istore 5, 2) := by decide +kernel
theorem dX5_from_38 : decode cX5_from 38 = .ok (.iload 5, 2) := by decide +kernel
theorem dX5_from_40 : decode cX5_from 40 = .ok (.aload_n 0, 1) := by decide +kernel
theorem dX5_from_41 : decode cX5_from 41 = .ok (.getfield 7, 3) := by decide +kernel
theorem dX5_from_44 : decode cX5_from 44 = .ok (.iconst 0, 1) := by decide +kernel
theorem dX5_from_45 : decode cX5_from 45 = .ok (.iaload, 1) := by decide +kernel
theorem dX5_from_46 : decode cX5_from 46 = .ok (.if_icmp .ge 107, 3) := by decide +kernel
theorem dX5_from_49 : decode cX5_from 49 = .ok (.iconst 0, 1) := by decide +kernel
theorem dX5_from_50 : decode cX5_from 50 = .ok (.istore 6, 2) := by decide +kernel
theorem dX5_from_52 : decode cX5_from 52 = .ok (.iload 6, 2) := by decide +kernel
theorem dX5_from_54 : decode cX5_from 54 = .ok (.aload_n 0, 1) := by decide +kernel
theorem dX5_from_55 : decode cX5_from 55 = .ok (.getfield 7, 3) := by decide +kernel
theorem dX5_from_58 : decode cX5_from 58 = .ok (.iconst 0, 1) := by decide +kernel
theorem dX5_from_59 : decode cX5_from 59 = .ok (.iaload, 1) := by decide +kernel
theorem dX5_from_60 : decode cX5_from 60 = .ok (.if_icmp .ge 36, 3) := by decide +kernel
theorem dX5_from_63 : decode cX5_from 63 = .ok (.aload_n 0, 1) := by decide +kernel
theorem dX5_from_64 : decode cX5_from 64 = .ok (.getfield 7, 3) := by decide +kernel
theorem dX5_from_67 : decode cX5_from 67 = .ok (.bipush 17, 2) := by decide +kernel
theorem dX5_from_69 : decode cX5_from 69 = .ok (.bipush 8, 2) := by decide +kernel
theorem dX5_from_71 : decode cX5_from 71 = .ok (.iload 6, 2) := by decide +kernel
theorem dX5_from_73 : decode cX5_from 73 = .ok (.imul, 1) := by decide +kernel
theorem dX5_from_74 : decode cX5_from 74 = .ok (.iadd, 1) := by decide +kernel
theorem dX5_from_75 : decode cX5_from 75 = .ok (.iload_n 1, 1) := by decide +kernel
theorem dX5_from_76 : decode cX5_from 76 = .ok (.iadd, 1) := by decide +kernel
theorem dX5_from_77 : decode cX5_from 77 = .ok (.iload 6, 2) := by decide +kernel
theorem dX5_from_79 : decode cX5_from 79 = .ok (.iload 5, 2) := by decide +kernel
theorem dX5_from_81 : decode cX5_from 81 = .ok (.if_icmp .ne 7, 3) := by decide +kernel
theorem dX5_from_84 : decode cX5_from 84 = .ok (.iconst 0, 1) := by decide +kernel
theorem dX5_from_85 : decode cX5_from 85 = .ok (.goto 4, 3) := by decide +kernel
theorem dX5_from_88 : decode cX5_from 88 = .ok (.iconst (-1), 1) := by decide +kernel
theorem dX5_from_89 : decode cX5_from 89 = .ok (.iastore, 1) := by decide +kernel
theorem dX5_from_90 : decode cX5_from 90 = .ok (.iinc 6 1, 3) := by decide +kernel
theorem dX5_from_93 : decode cX5_from 93 = .ok (.goto (-41), 3) := by decide +kernel
theorem dX5_from_96 : decode cX5_from 96 = .ok (.iconst 0, 1) := by decide +kernel
theorem dX5_from_97 : decode cX5_from 97 = .ok (.istore 6, 2) := by decide +kernel
theorem dX5_from_99 : decode cX5_from 99 = .ok (.iload 6, 2) := by decide +kernel
theorem dX5_from_101 : decode cX5_from 101 = .ok (.iload_n 2, 1) := by decide +kernel
theorem dX5_from_102 : decode cX5_from 102 = .ok (.if_icmp .gt 22, 3) := by decide +kernel
theorem dX5_from_105 : decode cX5_from 105 = .ok (.aload_n 0, 1) := by decide +kernel
theorem dX5_from_106 : decode cX5_from 106 = .ok (.iload_n 1, 1) := by decide +kernel
theorem dX5_from_107 : decode cX5_from 107 = .ok (.invokevirtual 67, 3) := by decide +kernel
theorem dX5_from_110 : decode cX5_from 110 = .ok (.ifCond .ne 14, 3) := by decide +kernel
theorem dX5_from_113 : decode cX5_from 113 = .ok (.aload_n 0, 1) := by decide +kernel
theorem dX5_from_114 : decode cX5_from 114 = .ok (.iload_n 3, 1) := by decide +kernel
theorem dX5_from_115 : decode cX5_from 115 = .ok (.invokevirtual 154, 3) := by decide +kernel
theorem dX5_from_118 : decode cX5_from 118 = .ok (.iinc 6 1, 3) := by decide +kernel
theorem dX5_from_121 : decode cX5_from 121 = .ok (.goto (-22), 3) := by decide +kernel
theorem dX5_from_124 : decode cX5_from 124 = .ok (.iload 4, 2) := by decide +kernel
theorem dX5_from_126 : decode cX5_from 126 = .ok (.iload 6, 2) := by decide +kernel
theorem dX5_from_128 : decode cX5_from 128 = .ok (.iload_n 2, 1) := by decide +kernel
theorem dX5_from_129 : decode cX5_from 129 = .ok (.if_icmp .ne 10, 3) := by decide +kernel
theorem dX5_from_132 : decode cX5_from 132 = .ok (.iconst 1, 1) := by decide +kernel
theorem dX5_from_133 : decode cX5_from 133 = .ok (.iload 5, 2) := by decide +kernel
theorem dX5_from_135 : decode cX5_from 135 = .ok (.ishl, 1) := by decide +kernel
theorem dX5_from_136 : decode cX5_from 136 = .ok (.goto 4, 3) := by decide +kernel
theorem dX5_from_139 : decode cX5_from 139 = .ok (.iconst 0, 1) := by decide +kernel
theorem dX5_from_140 : decode cX5_from 140 = .ok (.ior, 1) := by decide +kernel
theorem dX5_from_141 : decode cX5_from 141 = .ok (.istore 4, 2) := by decide +kernel
theorem dX5_from_143 : decode cX5_from 143 = .ok (.aload_n 0, 1) := by decide +kernel
theorem dX5_from_144 : decode cX5_from 144 = .ok (.invokevirtual 181, 3) := by decide +kernel
theorem dX5_from_147 : decode cX5_from 147 = .ok (.iinc 5 1, 3) := by decide +kernel
theorem dX5_from_150 : decode cX5_from 150 = .ok (.goto (-112), 3) := by decide +kernel
theorem dX5_from_153 : decode cX5_from 153 = .ok (.iload 4, 2) := by decide +kernel
theorem dX5_from_155 : decode cX5_from 155 = .ok (.ireturn, 1) := by decide +kernel
theorem dX5_image_0 : decode cX5_image 0 = .ok (.iconst 0, 1) := by decide +kernel
theorem dX5_image_1 : decode cX5_image 1 = .ok (.istore_n 1, 1) := by decide +kernel
theorem dX5_image_2 : decode cX5_image 2 = .ok (.iload_n 1, 1) := by decide +kernel
theorem dX5_image_3 : decode cX5_image 3 = .ok (.bipush 65, 2) := by decide +kernel
theorem dX5_image_5 : decode cX5_image 5 = .ok (.if_icmp .ge 21, 3) := by decide +kernel
theorem dX5_image_8 : decode cX5_image 8 = .ok (.aload_n 0, 1) := by decide +kernel
theorem dX5_image_9 : decode cX5_image 9 = .ok (.getfield 28, 3) := by decide +kernel
theorem dX5_image_12 : decode cX5_image 12 = .ok (.iload_n 1, 1) := by decide +kernel
theorem dX5_image_13 : decode cX5_image 13 = .ok (.aload_n 0, 1) := by decide +kernel
theorem dX5_image_14 : decode cX5_image 14 = .ok (.getfield 7, 3) := by decide +kernel
theorem dX5_image_17 : decode cX5_image 17 = .ok (.iload_n 1, 1) := by decide +kernel
theorem dX5_image_18 : decode cX5_image 18 = .ok (.iaload, 1) := by decide +kernel
theorem dX5_image_19 : decode cX5_image 19 = .ok (.iastore, 1) := by decide +kernel
theorem dX5_image_20 : decode cX5_image 20 = .ok (.iinc 1 1, 3) := by decide +kernel
theorem dX5_image_23 : decode cX5_image 23 = .ok (.goto (-21), 3) := by decide +kernel
theorem dX5_image_26 : decode cX5_image 26 = .ok (.iconst 0, 1) := by decide +kernel
theorem dX5_image_27 : decode cX5_image 27 = .ok (.istore_n 1, 1) := by decide +kernel
theorem dX5_image_28 : decode cX5_image 28 = .ok (.iload_n 1, 1) := by decide +kernel
theorem dX5_image_29 : decode cX5_image 29 = .ok (.sipush 400, 3) := by decide +kernel
theorem dX5_image_32 : decode cX5_image 32 = .ok (.if_icmp .ge 24, 3) := by decide +kernel
theorem dX5_image_35 : decode cX5_image 35 = .ok (.aload_n 0, 1) := by decide +kernel
theorem dX5_image_36 : decode cX5_image 36 = .ok (.getfield 28, 3) := by decide +kernel
theorem dX5_image_39 : decode cX5_image 39 = .ok (.bipush 65, 2) := by decide +kernel
theorem dX5_image_41 : decode cX5_image 41 = .ok (.iload_n 1, 1) := by decide +kernel
theorem dX5_image_42 : decode cX5_image 42 = .ok (.iadd, 1) := by decide +kernel
theorem dX5_image_43 : decode cX5_image 43 = .ok (.aload_n 0, 1) := by decide +kernel
theorem dX5_image_44 : decode cX5_image 44 = .ok (.getfield 22, 3) := by decide +kernel
theorem dX5_image_47 : decode cX5_image 47 = .ok (.iload_n 1, 1) := by decide +kernel
theorem dX5_image_48 : decode cX5_image 48 = .ok (.iaload, 1) := by decide +kernel
theorem dX5_image_49 : decode cX5_image 49 = .ok (.iastore, 1) := by decide +kernel
theorem dX5_image_50 : decode cX5_image 50 = .ok (.iinc 1 1, 3) := by decide +kernel
theorem dX5_image_53 : decode cX5_image 53 = .ok (.goto (-25), 3) := by decide +kernel
theorem dX5_image_56 : decode cX5_image 56 = .ok (.aload_n 0, 1) := by decide +kernel
theorem dX5_image_57 : decode cX5_image 57 = .ok (.aload_n 0, 1) := by decide +kernel
theorem dX5_image_58 : decode cX5_image 58 = .ok (.getfield 77, 3) := by decide +kernel
theorem dX5_image_61 : decode cX5_image 61 = .ok (.putfield 200, 3) := by decide +kernel
theorem dX5_image_64 : decode cX5_image 64 = .ok (.aload_n 0, 1) := by decide +kernel
theorem dX5_image_65 : decode cX5_image 65 = .ok (.iconst 1, 1) := by decide +kernel
theorem dX5_image_66 : decode cX5_image 66 = .ok (.putfield 203, 3) := by decide +kernel
theorem dX5_image_69 : decode cX5_image 69 = .ok (.iconst 1, 1) := by decide +kernel
theorem dX5_image_70 : decode cX5_image 70 = .ok (.ireturn, 1) := by decide +kernel
theorem dX5_restore_0 : decode cX5_restore 0 = .ok (.aload_n 0, 1) := by decide +kernel
theorem dX5_restore_1 : decode cX5_restore 1 = .ok (.getfield 203, 3) := by decide +kernel
theorem dX5_restore_4 : decode cX5_restore 4 = .ok (.ifCond .ne 6, 3) := by decide +kernel
theorem dX5_restore_7 : decode cX5_restore 7 = .ok (.bipush (-4), 2) := by decide +kernel
theorem dX5_restore_9 : decode cX5_restore 9 = .ok (.ireturn, 1) := by decide +kernel
theorem dX5_restore_10 : decode cX5_restore 10 = .ok (.iconst 0, 1) := by decide +kernel
theorem dX5_restore_11 : decode cX5_restore 11 = .ok (.istore_n 1, 1) := by decide +kernel
theorem dX5_restore_12 : decode cX5_restore 12 = .ok (.iload_n 1, 1) := by decide +kernel
theorem dX5_restore_13 : decode cX5_restore 13 = .ok (.bipush 65, 2) := by decide +kernel
theorem dX5_restore_15 : decode cX5_restore 15 = .ok (.if_icmp .ge 21, 3) := by decide +kernel
theorem dX5_restore_18 : decode cX5_restore 18 = .ok (.aload_n 0, 1) := by decide +kernel
theorem dX5_restore_19 : decode cX5_restore 19 = .ok (.getfield 7, 3) := by decide +kernel
theorem dX5_restore_22 : decode cX5_restore 22 = .ok (.iload_n 1, 1) := by decide +kernel
theorem dX5_restore_23 : decode cX5_restore 23 = .ok (.aload_n 0, 1) := by decide +kernel
theorem dX5_restore_24 : decode cX5_restore 24 = .ok (.getfield 28, 3) := by decide +kernel
theorem dX5_restore_27 : decode cX5_restore 27 = .ok (.iload_n 1, 1) := by decide +kernel
theorem dX5_restore_28 : decode cX5_restore 28 = .ok (.iaload, 1) := by decide +kernel
theorem dX5_restore_29 : decode cX5_restore 29 = .ok (.iastore, 1) := by decide +kernel
theorem dX5_restore_30 : decode cX5_restore 30 = .ok (.iinc 1 1, 3) := by decide +kernel
theorem dX5_restore_33 : decode cX5_restore 33 = .ok (.goto (-21), 3) := by decide +kernel
theorem dX5_restore_36 : decode cX5_restore 36 = .ok (.iconst 0, 1) := by decide +kernel
theorem dX5_restore_37 : decode cX5_restore 37 = .ok (.istore_n 1, 1) := by decide +kernel
theorem dX5_restore_38 : decode cX5_restore 38 = .ok (.iload_n 1, 1) := by decide +kernel
theorem dX5_restore_39 : decode cX5_restore 39 = .ok (.sipush 400, 3) := by decide +kernel
theorem dX5_restore_42 : decode cX5_restore 42 = .ok (.if_icmp .ge 24, 3) := by decide +kernel
theorem dX5_restore_45 : decode cX5_restore 45 = .ok (.aload_n 0, 1) := by decide +kernel
theorem dX5_restore_46 : decode cX5_restore 46 = .ok (.getfield 22, 3) := by decide +kernel
theorem dX5_restore_49 : decode cX5_restore 49 = .ok (.iload_n 1, 1) := by decide +kernel
theorem dX5_restore_50 : decode cX5_restore 50 = .ok (.aload_n 0, 1) := by decide +kernel
theorem dX5_restore_51 : decode cX5_restore 51 = .ok (.getfield 28, 3) := by decide +kernel
theorem dX5_restore_54 : decode cX5_restore 54 = .ok (.bipush 65, 2) := by decide +kernel
theorem dX5_restore_56 : decode cX5_restore 56 = .ok (.iload_n 1, 1) := by decide +kernel
theorem dX5_restore_57 : decode cX5_restore 57 = .ok (.iadd, 1) := by decide +kernel
theorem dX5_restore_58 : decode cX5_restore 58 = .ok (.iaload, 1) := by decide +kernel
theorem dX5_restore_59 : decode cX5_restore 59 = .ok (.iastore, 1) := by decide +kernel
theorem dX5_restore_60 : decode cX5_restore 60 = .ok (.iinc 1 1, 3) := by decide +kernel
theorem dX5_restore_63 : decode cX5_restore 63 = .ok (.goto (-25), 3) := by decide +kernel
theorem dX5_restore_66 : decode cX5_restore 66 = .ok (.aload_n 0, 1) := by decide +kernel
theorem dX5_restore_67 : decode cX5_restore 67 = .ok (.aload_n 0, 1) := by decide +kernel
theorem dX5_restore_68 : decode cX5_restore 68 = .ok (.getfield 200, 3) := by decide +kernel
theorem dX5_restore_71 : decode cX5_restore 71 = .ok (.putfield 77, 3) := by decide +kernel
theorem dX5_restore_74 : decode cX5_restore 74 = .ok (.iconst 1, 1) := by decide +kernel
theorem dX5_restore_75 : decode cX5_restore 75 = .ok (.ireturn, 1) := by decide +kernel
set_option maxRecDepth 20000 in
theorem ggX5_isSheet_X5_in : GoodIn wsX5_isSheet wsX5_in := goodIn_r _ [5] (by decide +kernel) (by decide +kernel)
set_option maxRecDepth 20000 in
theorem gX5_isSheet_X5_in : GoodIn wsX5_isSheet (va_wsS RX5 44 yX5_in wsX5_in) := goodIn_app (goodIn_of _ (by decide +kernel)) ggX5_isSheet_X5_in
theorem dX5_isSheet_0 : decode cX5_isSheet 0 = .ok (.iload_n 0, 1) := by decide +kernel
theorem dX5_isSheet_1 : decode cX5_isSheet 1 = .ok (.i2l, 1) := by decide +kernel
theorem dX5_isSheet_2 : decode cX5_isSheet 2 = .ok (.lconst 0, 1) := by decide +kernel
theorem dX5_isSheet_3 : decode cX5_isSheet 3 = .ok (.ldc2_w 206, 3) := by decide +kernel
theorem dX5_isSheet_6 : decode cX5_isSheet 6 = .ok (.invokestatic 44, 3) := by decide +kernel
theorem dX5_isSheet_9 : decode cX5_isSheet 9 = .ok (.ireturn, 1) := by decide +kernel
set_option maxRecDepth 20000 in
theorem ggX5_isLane_X5_in : GoodIn wsX5_isLane wsX5_in := goodIn_r _ [5] (by decide +kernel) (by decide +kernel)
set_option maxRecDepth 20000 in
theorem gX5_isLane_X5_in : GoodIn wsX5_isLane (va_wsS RX5 44 yX5_in wsX5_in) := goodIn_app (goodIn_of _ (by decide +kernel)) ggX5_isLane_X5_in
theorem dX5_isLane_0 : decode cX5_isLane 0 = .ok (.iload_n 0, 1) := by decide +kernel
theorem dX5_isLane_1 : decode cX5_isLane 1 = .ok (.i2l, 1) := by decide +kernel
theorem dX5_isLane_2 : decode cX5_isLane 2 = .ok (.lconst 0, 1) := by decide +kernel
theorem dX5_isLane_3 : decode cX5_isLane 3 = .ok (.ldc2_w 206, 3) := by decide +kernel
theorem dX5_isLane_6 : decode cX5_isLane 6 = .ok (.invokestatic 44, 3) := by decide +kernel
theorem dX5_isLane_9 : decode cX5_isLane 9 = .ok (.ireturn, 1) := by decide +kernel
theorem dX5_why_0 : decode cX5_why 0 = .ok (.aload_n 0, 1) := by decide +kernel
theorem dX5_why_1 : decode cX5_why 1 = .ok (.getfield 31, 3) := by decide +kernel
theorem dX5_why_4 : decode cX5_why 4 = .ok (.iload_n 1, 1) := by decide +kernel
theorem dX5_why_5 : decode cX5_why 5 = .ok (.iaload, 1) := by decide +kernel
theorem dX5_why_6 : decode cX5_why 6 = .ok (.ifCond .ge 6, 3) := by decide +kernel
theorem dX5_why_9 : decode cX5_why 9 = .ok (.bipush (-11), 2) := by decide +kernel
theorem dX5_why_11 : decode cX5_why 11 = .ok (.ireturn, 1) := by decide +kernel
theorem dX5_why_12 : decode cX5_why 12 = .ok (.aload_n 0, 1) := by decide +kernel
theorem dX5_why_13 : decode cX5_why 13 = .ok (.getfield 31, 3) := by decide +kernel
theorem dX5_why_16 : decode cX5_why 16 = .ok (.iload_n 1, 1) := by decide +kernel
theorem dX5_why_17 : decode cX5_why 17 = .ok (.iaload, 1) := by decide +kernel
theorem dX5_why_18 : decode cX5_why 18 = .ok (.iload_n 2, 1) := by decide +kernel
theorem dX5_why_19 : decode cX5_why 19 = .ok (.if_icmp .eq 6, 3) := by decide +kernel
theorem dX5_why_22 : decode cX5_why 22 = .ok (.bipush (-12), 2) := by decide +kernel
theorem dX5_why_24 : decode cX5_why 24 = .ok (.ireturn, 1) := by decide +kernel
theorem dX5_why_25 : decode cX5_why 25 = .ok (.iload_n 3, 1) := by decide +kernel
theorem dX5_why_26 : decode cX5_why 26 = .ok (.ifCond .lt 25, 3) := by decide +kernel
theorem dX5_why_29 : decode cX5_why 29 = .ok (.iload 4, 2) := by decide +kernel
theorem dX5_why_31 : decode cX5_why 31 = .ok (.ifCond .lt 20, 3) := by decide +kernel
theorem dX5_why_34 : decode cX5_why 34 = .ok (.iload_n 3, 1) := by decide +kernel
theorem dX5_why_35 : decode cX5_why 35 = .ok (.i2l, 1) := by decide +kernel
theorem dX5_why_36 : decode cX5_why 36 = .ok (.iload 4, 2) := by decide +kernel
theorem dX5_why_38 : decode cX5_why 38 = .ok (.i2l, 1) := by decide +kernel
theorem dX5_why_39 : decode cX5_why 39 = .ok (.ladd, 1) := by decide +kernel
theorem dX5_why_40 : decode cX5_why 40 = .ok (.aload_n 0, 1) := by decide +kernel
theorem dX5_why_41 : decode cX5_why 41 = .ok (.getfield 34, 3) := by decide +kernel
theorem dX5_why_44 : decode cX5_why 44 = .ok (.iload_n 1, 1) := by decide +kernel
theorem dX5_why_45 : decode cX5_why 45 = .ok (.iaload, 1) := by decide +kernel
theorem dX5_why_46 : decode cX5_why 46 = .ok (.i2l, 1) := by decide +kernel
theorem dX5_why_47 : decode cX5_why 47 = .ok (.lcmp, 1) := by decide +kernel
theorem dX5_why_48 : decode cX5_why 48 = .ok (.ifCond .le 8, 3) := by decide +kernel
theorem dX5_why_51 : decode cX5_why 51 = .ok (.bipush (-13), 2) := by decide +kernel
theorem dX5_why_53 : decode cX5_why 53 = .ok (.goto 4, 3) := by decide +kernel
theorem dX5_why_56 : decode cX5_why 56 = .ok (.iconst 0, 1) := by decide +kernel
theorem dX5_why_57 : decode cX5_why 57 = .ok (.ireturn, 1) := by decide +kernel
set_option maxRecDepth 20000 in
theorem ggX5_told_X5_isThing : GoodIn wsX5_told wsX5_isThing := goodIn_r _ [6, 7, 8, 9, 5, 10] (by decide +kernel) (by decide +kernel)
set_option maxRecDepth 20000 in
theorem gX5_told_X5_isThing : GoodIn wsX5_told (va_wsS RX5 96 yX5_isThing wsX5_isThing) := goodIn_app (goodIn_of _ (by decide +kernel)) ggX5_told_X5_isThing
set_option maxRecDepth 20000 in
theorem ggX5_told_X5_isSheet : GoodIn wsX5_told wsX5_isSheet := goodIn_r _ [13, 14, 8, 9, 5, 10] (by decide +kernel) (by decide +kernel)
set_option maxRecDepth 20000 in
theorem gX5_told_X5_isSheet : GoodIn wsX5_told (va_wsS RX5 208 yX5_isSheet wsX5_isSheet) := goodIn_app (goodIn_of _ (by decide +kernel)) ggX5_told_X5_isSheet
set_option maxRecDepth 20000 in
theorem ggX5_told_X5_isLane : GoodIn wsX5_told wsX5_isLane := goodIn_r _ [17, 14, 8, 9, 5, 10] (by decide +kernel) (by decide +kernel)
set_option maxRecDepth 20000 in
theorem gX5_told_X5_isLane : GoodIn wsX5_told (va_wsS RX5 211 yX5_isLane wsX5_isLane) := goodIn_app (goodIn_of _ (by decide +kernel)) ggX5_told_X5_isLane
set_option maxRecDepth 20000 in
theorem ggX5_told_X5_in : GoodIn wsX5_told wsX5_in := goodIn_r _ [10] (by decide +kernel) (by decide +kernel)
set_option maxRecDepth 20000 in
theorem gX5_told_X5_in : GoodIn wsX5_told (va_wsS RX5 44 yX5_in wsX5_in) := goodIn_app (goodIn_of _ (by decide +kernel)) ggX5_told_X5_in
set_option maxRecDepth 20000 in
theorem ggX5_told_X5_why : GoodIn wsX5_told wsX5_why := goodIn_r _ [21, 22, 23, 71, 72, 73, 74, 75, 76, 77, 78, 79, 80, 81, 82, 83, 84, 85, 86, 87] (by decide +kernel) (by decide +kernel)
set_option maxRecDepth 20000 in
theorem gX5_told_X5_why : GoodIn wsX5_told (wsV RX5 214 RX5 yX5_why wsX5_why) := goodIn_app (goodIn_of _ (by decide +kernel)) ggX5_told_X5_why
set_option maxRecDepth 20000 in
theorem ggX5_told_X5_asides : GoodIn wsX5_told wsX5_asides := goodIn_r _ [27, 28, 29, 71, 72, 73, 74, 75, 76, 77, 78, 79, 80, 81, 82, 83, 84, 85, 86, 87] (by decide +kernel) (by decide +kernel)
set_option maxRecDepth 20000 in
theorem gX5_told_X5_asides : GoodIn wsX5_told (wsV RX5 174 RX5 yX5_asides wsX5_asides) := goodIn_app (goodIn_of _ (by decide +kernel)) ggX5_told_X5_asides
set_option maxRecDepth 20000 in
theorem ggX5_told_X5_goesBy : GoodIn wsX5_told wsX5_goesBy := goodIn_r _ [33, 29, 34, 35, 36, 37, 5, 38, 39, 40, 41, 42, 43, 44, 45, 46, 47, 48, 49, 50, 51, 52, 53, 54, 55, 56, 57, 58, 59, 60, 61, 62, 71, 72, 73, 74, 75, 76, 77, 78, 79, 80, 81, 82, 83, 84, 85, 86, 87] (by decide +kernel) (by decide +kernel)
set_option maxRecDepth 20000 in
theorem gX5_told_X5_goesBy : GoodIn wsX5_told (wsV RX5 154 RX5 yX5_goesBy wsX5_goesBy) := goodIn_app (goodIn_of _ (by decide +kernel)) ggX5_told_X5_goesBy
set_option maxRecDepth 20000 in
theorem ggX5_told_X5_who : GoodIn wsX5_told wsX5_who := goodIn_r _ [66, 29, 55, 56, 57, 5, 58, 39, 40, 41, 42, 71, 72, 73, 74, 75, 76, 77, 78, 79, 80, 81, 82, 83, 84, 85, 86, 87] (by decide +kernel) (by decide +kernel)
set_option maxRecDepth 20000 in
theorem gX5_told_X5_who : GoodIn wsX5_told (wsV RX5 64 RX5 yX5_who wsX5_who) := goodIn_app (goodIn_of _ (by decide +kernel)) ggX5_told_X5_who
set_option maxRecDepth 20000 in
theorem ggX5_told_X5_backs : GoodIn wsX5_told wsX5_backs := goodIn_r _ [70, 29, 28, 71, 72, 73, 74, 75, 76, 77, 78, 79, 80, 81, 82, 83, 84, 85, 86, 87] (by decide +kernel) (by decide +kernel)
set_option maxRecDepth 20000 in
theorem gX5_told_X5_backs : GoodIn wsX5_told (wsV RX5 181 RX5 yX5_backs wsX5_backs) := goodIn_app (goodIn_of _ (by decide +kernel)) ggX5_told_X5_backs
theorem dX5_told_0 : decode cX5_told 0 = .ok (.iload_n 1, 1) := by decide +kernel
theorem dX5_told_1 : decode cX5_told 1 = .ok (.invokestatic 96, 3) := by decide +kernel
theorem dX5_told_4 : decode cX5_told 4 = .ok (.ifCond .eq 30, 3) := by decide +kernel
theorem dX5_told_7 : decode cX5_told 7 = .ok (.iload_n 2, 1) := by decide +kernel
theorem dX5_told_8 : decode cX5_told 8 = .ok (.invokestatic 208, 3) := by decide +kernel
theorem dX5_told_11 : decode cX5_told 11 = .ok (.ifCond .eq 23, 3) := by decide +kernel
theorem dX5_told_14 : decode cX5_told 14 = .ok (.iload_n 3, 1) := by decide +kernel
theorem dX5_told_15 : decode cX5_told 15 = .ok (.invokestatic 211, 3) := by decide +kernel
theorem dX5_told_18 : decode cX5_told 18 = .ok (.ifCond .eq 16, 3) := by decide +kernel
theorem dX5_told_21 : decode cX5_told 21 = .ok (.iload 5, 2) := by decide +kernel
theorem dX5_told_23 : decode cX5_told 23 = .ok (.i2l, 1) := by decide +kernel
theorem dX5_told_24 : decode cX5_told 24 = .ok (.lconst 1, 1) := by decide +kernel
theorem dX5_told_25 : decode cX5_told 25 = .ok (.ldc2_w 187, 3) := by decide +kernel
theorem dX5_told_28 : decode cX5_told 28 = .ok (.invokestatic 44, 3) := by decide +kernel
theorem dX5_told_31 : decode cX5_told 31 = .ok (.ifCond .ne 5, 3) := by decide +kernel
theorem dX5_told_34 : decode cX5_told 34 = .ok (.iconst (-1), 1) := by decide +kernel
theorem dX5_told_35 : decode cX5_told 35 = .ok (.ireturn, 1) := by decide +kernel
theorem dX5_told_36 : decode cX5_told 36 = .ok (.aload_n 0, 1) := by decide +kernel
theorem dX5_told_37 : decode cX5_told 37 = .ok (.iload_n 2, 1) := by decide +kernel
theorem dX5_told_38 : decode cX5_told 38 = .ok (.iload_n 3, 1) := by decide +kernel
theorem dX5_told_39 : decode cX5_told 39 = .ok (.iload 4, 2) := by decide +kernel
theorem dX5_told_41 : decode cX5_told 41 = .ok (.iload 5, 2) := by decide +kernel
theorem dX5_told_43 : decode cX5_told 43 = .ok (.invokevirtual 214, 3) := by decide +kernel
theorem dX5_told_46 : decode cX5_told 46 = .ok (.istore 6, 2) := by decide +kernel
theorem dX5_told_48 : decode cX5_told 48 = .ok (.iload 6, 2) := by decide +kernel
theorem dX5_told_50 : decode cX5_told 50 = .ok (.ifCond .ge 6, 3) := by decide +kernel
theorem dX5_told_53 : decode cX5_told 53 = .ok (.iload 6, 2) := by decide +kernel
theorem dX5_told_55 : decode cX5_told 55 = .ok (.ireturn, 1) := by decide +kernel
theorem dX5_told_56 : decode cX5_told 56 = .ok (.iconst 0, 1) := by decide +kernel
theorem dX5_told_57 : decode cX5_told 57 = .ok (.istore 7, 2) := by decide +kernel
theorem dX5_told_59 : decode cX5_told 59 = .ok (.aload_n 0, 1) := by decide +kernel
theorem dX5_told_60 : decode cX5_told 60 = .ok (.invokevirtual 174, 3) := by decide +kernel
theorem dX5_told_63 : decode cX5_told 63 = .ok (.iconst 0, 1) := by decide +kernel
theorem dX5_told_64 : decode cX5_told 64 = .ok (.istore 8, 2) := by decide +kernel
theorem dX5_told_66 : decode cX5_told 66 = .ok (.iload 8, 2) := by decide +kernel
theorem dX5_told_68 : decode cX5_told 68 = .ok (.bipush 10, 2) := by decide +kernel
theorem dX5_told_70 : decode cX5_told 70 = .ok (.if_icmp .ge 93, 3) := by decide +kernel
theorem dX5_told_73 : decode cX5_told 73 = .ok (.iconst 1, 1) := by decide +kernel
theorem dX5_told_74 : decode cX5_told 74 = .ok (.istore 9, 2) := by decide +kernel
theorem dX5_told_76 : decode cX5_told 76 = .ok (.iconst 0, 1) := by decide +kernel
theorem dX5_told_77 : decode cX5_told 77 = .ok (.istore 10, 2) := by decide +kernel
theorem dX5_told_79 : decode cX5_told 79 = .ok (.iload 10, 2) := by decide +kernel
theorem dX5_told_81 : decode cX5_told 81 = .ok (.iload 5, 2) := by decide +kernel
theorem dX5_told_83 : decode cX5_told 83 = .ok (.if_icmp .ge 52, 3) := by decide +kernel
theorem dX5_told_86 : decode cX5_told 86 = .ok (.aload_n 0, 1) := by decide +kernel
theorem dX5_told_87 : decode cX5_told 87 = .ok (.iload 8, 2) := by decide +kernel
theorem dX5_told_89 : decode cX5_told 89 = .ok (.invokevirtual 154, 3) := by decide +kernel
theorem dX5_told_92 : decode cX5_told 92 = .ok (.iload 9, 2) := by decide +kernel
theorem dX5_told_94 : decode cX5_told 94 = .ok (.ifCond .eq 32, 3) := by decide +kernel
theorem dX5_told_97 : decode cX5_told 97 = .ok (.aload_n 0, 1) := by decide +kernel
theorem dX5_told_98 : decode cX5_told 98 = .ok (.iload_n 1, 1) := by decide +kernel
theorem dX5_told_99 : decode cX5_told 99 = .ok (.invokevirtual 64, 3) := by decide +kernel
theorem dX5_told_102 : decode cX5_told 102 = .ok (.i2l, 1) := by decide +kernel
theorem dX5_told_103 : decode cX5_told 103 = .ok (.aload_n 0, 1) := by decide +kernel
theorem dX5_told_104 : decode cX5_told 104 = .ok (.getfield 37, 3) := by decide +kernel
theorem dX5_told_107 : decode cX5_told 107 = .ok (.bipush 24, 2) := by decide +kernel
theorem dX5_told_109 : decode cX5_told 109 = .ok (.iload_n 2, 1) := by decide +kernel
theorem dX5_told_110 : decode cX5_told 110 = .ok (.imul, 1) := by decide +kernel
theorem dX5_told_111 : decode cX5_told 111 = .ok (.iload 4, 2) := by decide +kernel
theorem dX5_told_113 : decode cX5_told 113 = .ok (.iadd, 1) := by decide +kernel
theorem dX5_told_114 : decode cX5_told 114 = .ok (.iload 10, 2) := by decide +kernel
theorem dX5_told_116 : decode cX5_told 116 = .ok (.iadd, 1) := by decide +kernel
theorem dX5_told_117 : decode cX5_told 117 = .ok (.laload, 1) := by decide +kernel
theorem dX5_told_118 : decode cX5_told 118 = .ok (.lcmp, 1) := by decide +kernel
theorem dX5_told_119 : decode cX5_told 119 = .ok (.ifCond .ne 7, 3) := by decide +kernel
theorem dX5_told_122 : decode cX5_told 122 = .ok (.iconst 1, 1) := by decide +kernel
theorem dX5_told_123 : decode cX5_told 123 = .ok (.goto 4, 3) := by decide +kernel
theorem dX5_told_126 : decode cX5_told 126 = .ok (.iconst 0, 1) := by decide +kernel
theorem dX5_told_127 : decode cX5_told 127 = .ok (.istore 9, 2) := by decide +kernel
theorem dX5_told_129 : decode cX5_told 129 = .ok (.iinc 10 1, 3) := by decide +kernel
theorem dX5_told_132 : decode cX5_told 132 = .ok (.goto (-53), 3) := by decide +kernel
theorem dX5_told_135 : decode cX5_told 135 = .ok (.iload 7, 2) := by decide +kernel
theorem dX5_told_137 : decode cX5_told 137 = .ok (.iload 9, 2) := by decide +kernel
theorem dX5_told_139 : decode cX5_told 139 = .ok (.ifCond .eq 10, 3) := by decide +kernel
theorem dX5_told_142 : decode cX5_told 142 = .ok (.iconst 1, 1) := by decide +kernel
theorem dX5_told_143 : decode cX5_told 143 = .ok (.iload 8, 2) := by decide +kernel
theorem dX5_told_145 : decode cX5_told 145 = .ok (.ishl, 1) := by decide +kernel
theorem dX5_told_146 : decode cX5_told 146 = .ok (.goto 4, 3) := by decide +kernel
theorem dX5_told_149 : decode cX5_told 149 = .ok (.iconst 0, 1) := by decide +kernel
theorem dX5_told_150 : decode cX5_told 150 = .ok (.ior, 1) := by decide +kernel
theorem dX5_told_151 : decode cX5_told 151 = .ok (.istore 7, 2) := by decide +kernel
theorem dX5_told_153 : decode cX5_told 153 = .ok (.aload_n 0, 1) := by decide +kernel
theorem dX5_told_154 : decode cX5_told 154 = .ok (.invokevirtual 181, 3) := by decide +kernel
theorem dX5_told_157 : decode cX5_told 157 = .ok (.iinc 8 1, 3) := by decide +kernel
theorem dX5_told_160 : decode cX5_told 160 = .ok (.goto (-94), 3) := by decide +kernel
theorem dX5_told_163 : decode cX5_told 163 = .ok (.iload 7, 2) := by decide +kernel
theorem dX5_told_165 : decode cX5_told 165 = .ok (.ireturn, 1) := by decide +kernel
set_option maxRecDepth 20000 in
theorem ggX5_film_X5_isThing : GoodIn wsX5_film wsX5_isThing := goodIn_r _ [6, 7, 8, 9, 5, 10] (by decide +kernel) (by decide +kernel)
set_option maxRecDepth 20000 in
theorem gX5_film_X5_isThing : GoodIn wsX5_film (va_wsS RX5 96 yX5_isThing wsX5_isThing) := goodIn_app (goodIn_of _ (by decide +kernel)) ggX5_film_X5_isThing
set_option maxRecDepth 20000 in
theorem ggX5_film_X5_in : GoodIn wsX5_film wsX5_in := goodIn_r _ [10] (by decide +kernel) (by decide +kernel)
set_option maxRecDepth 20000 in
theorem gX5_film_X5_in : GoodIn wsX5_film (va_wsS RX5 44 yX5_in wsX5_in) := goodIn_app (goodIn_of _ (by decide +kernel)) ggX5_film_X5_in
set_option maxRecDepth 20000 in
theorem ggX5_film_X5_isHeat : GoodIn wsX5_film wsX5_isHeat := goodIn_r _ [13, 14, 8, 9, 5, 10] (by decide +kernel) (by decide +kernel)
set_option maxRecDepth 20000 in
theorem gX5_film_X5_isHeat : GoodIn wsX5_film (va_wsS RX5 162 yX5_isHeat wsX5_isHeat) := goodIn_app (goodIn_of _ (by decide +kernel)) ggX5_film_X5_isHeat
set_option maxRecDepth 20000 in
theorem ggX5_film_X5_isSheet : GoodIn wsX5_film wsX5_isSheet := goodIn_r _ [17, 18, 8, 9, 5, 10] (by decide +kernel) (by decide +kernel)
set_option maxRecDepth 20000 in
theorem gX5_film_X5_isSheet : GoodIn wsX5_film (va_wsS RX5 208 yX5_isSheet wsX5_isSheet) := goodIn_app (goodIn_of _ (by decide +kernel)) ggX5_film_X5_isSheet
set_option maxRecDepth 20000 in
theorem ggX5_film_X5_isLane : GoodIn wsX5_film wsX5_isLane := goodIn_r _ [21, 18, 8, 9, 5, 10] (by decide +kernel) (by decide +kernel)
set_option maxRecDepth 20000 in
theorem gX5_film_X5_isLane : GoodIn wsX5_film (va_wsS RX5 211 yX5_isLane wsX5_isLane) := goodIn_app (goodIn_of _ (by decide +kernel)) ggX5_film_X5_isLane
set_option maxRecDepth 20000 in
theorem ggX5_film_X5_why : GoodIn wsX5_film wsX5_why := goodIn_r _ [25, 26, 27, 75, 76, 77, 78, 79, 80, 81, 82, 83, 84, 85, 86, 87, 88, 89, 90, 91] (by decide +kernel) (by decide +kernel)
set_option maxRecDepth 20000 in
theorem gX5_film_X5_why : GoodIn wsX5_film (wsV RX5 214 RX5 yX5_why wsX5_why) := goodIn_app (goodIn_of _ (by decide +kernel)) ggX5_film_X5_why
set_option maxRecDepth 20000 in
theorem ggX5_film_X5_asides : GoodIn wsX5_film wsX5_asides := goodIn_r _ [31, 32, 33, 75, 76, 77, 78, 79, 80, 81, 82, 83, 84, 85, 86, 87, 88, 89, 90, 91] (by decide +kernel) (by decide +kernel)
set_option maxRecDepth 20000 in
theorem gX5_film_X5_asides : GoodIn wsX5_film (wsV RX5 174 RX5 yX5_asides wsX5_asides) := goodIn_app (goodIn_of _ (by decide +kernel)) ggX5_film_X5_asides
set_option maxRecDepth 20000 in
theorem ggX5_film_X5_goesBy : GoodIn wsX5_film wsX5_goesBy := goodIn_r _ [37, 33, 38, 39, 40, 41, 5, 42, 43, 44, 45, 46, 47, 48, 49, 50, 51, 52, 53, 54, 55, 56, 57, 58, 59, 60, 61, 62, 63, 64, 65, 66, 75, 76, 77, 78, 79, 80, 81, 82, 83, 84, 85, 86, 87, 88, 89, 90, 91] (by decide +kernel) (by decide +kernel)
set_option maxRecDepth 20000 in
theorem gX5_film_X5_goesBy : GoodIn wsX5_film (wsV RX5 154 RX5 yX5_goesBy wsX5_goesBy) := goodIn_app (goodIn_of _ (by decide +kernel)) ggX5_film_X5_goesBy
set_option maxRecDepth 20000 in
theorem ggX5_film_X5_who : GoodIn wsX5_film wsX5_who := goodIn_r _ [70, 33, 59, 60, 61, 5, 62, 43, 44, 45, 46, 75, 76, 77, 78, 79, 80, 81, 82, 83, 84, 85, 86, 87, 88, 89, 90, 91] (by decide +kernel) (by decide +kernel)
set_option maxRecDepth 20000 in
theorem gX5_film_X5_who : GoodIn wsX5_film (wsV RX5 64 RX5 yX5_who wsX5_who) := goodIn_app (goodIn_of _ (by decide +kernel)) ggX5_film_X5_who
set_option maxRecDepth 20000 in
theorem ggX5_film_X5_backs : GoodIn wsX5_film wsX5_backs := goodIn_r _ [74, 33, 32, 75, 76, 77, 78, 79, 80, 81, 82, 83, 84, 85, 86, 87, 88, 89, 90, 91] (by decide +kernel) (by decide +kernel)
set_option maxRecDepth 20000 in
theorem gX5_film_X5_backs : GoodIn wsX5_film (wsV RX5 181 RX5 yX5_backs wsX5_backs) := goodIn_app (goodIn_of _ (by decide +kernel)) ggX5_film_X5_backs
theorem dX5_film_0 : decode cX5_film 0 = .ok (.iload_n 1, 1) := by decide +kernel
theorem dX5_film_1 : decode cX5_film 1 = .ok (.invokestatic 96, 3) := by decide +kernel
theorem dX5_film_4 : decode cX5_film 4 = .ok (.ifCond .eq 38, 3) := by decide +kernel
theorem dX5_film_7 : decode cX5_film 7 = .ok (.iload_n 2, 1) := by decide +kernel
theorem dX5_film_8 : decode cX5_film 8 = .ok (.i2l, 1) := by decide +kernel
theorem dX5_film_9 : decode cX5_film 9 = .ok (.lconst 1, 1) := by decide +kernel
theorem dX5_film_10 : decode cX5_film 10 = .ok (.ldc2_w 218, 3) := by decide +kernel
theorem dX5_film_13 : decode cX5_film 13 = .ok (.invokestatic 44, 3) := by decide +kernel
theorem dX5_film_16 : decode cX5_film 16 = .ok (.ifCond .eq 26, 3) := by decide +kernel
theorem dX5_film_19 : decode cX5_film 19 = .ok (.iload_n 3, 1) := by decide +kernel
theorem dX5_film_20 : decode cX5_film 20 = .ok (.invokestatic 162, 3) := by decide +kernel
theorem dX5_film_23 : decode cX5_film 23 = .ok (.ifCond .eq 19, 3) := by decide +kernel
theorem dX5_film_26 : decode cX5_film 26 = .ok (.iload 4, 2) := by decide +kernel
theorem dX5_film_28 : decode cX5_film 28 = .ok (.invokestatic 208, 3) := by decide +kernel
theorem dX5_film_31 : decode cX5_film 31 = .ok (.ifCond .eq 11, 3) := by decide +kernel
theorem dX5_film_34 : decode cX5_film 34 = .ok (.iload 5, 2) := by decide +kernel
theorem dX5_film_36 : decode cX5_film 36 = .ok (.invokestatic 211, 3) := by decide +kernel
theorem dX5_film_39 : decode cX5_film 39 = .ok (.ifCond .ne 5, 3) := by decide +kernel
theorem dX5_film_42 : decode cX5_film 42 = .ok (.iconst (-1), 1) := by decide +kernel
theorem dX5_film_43 : decode cX5_film 43 = .ok (.ireturn, 1) := by decide +kernel
theorem dX5_film_44 : decode cX5_film 44 = .ok (.aload_n 0, 1) := by decide +kernel
theorem dX5_film_45 : decode cX5_film 45 = .ok (.iload 4, 2) := by decide +kernel
theorem dX5_film_47 : decode cX5_film 47 = .ok (.iload 5, 2) := by decide +kernel
theorem dX5_film_49 : decode cX5_film 49 = .ok (.iload 6, 2) := by decide +kernel
theorem dX5_film_51 : decode cX5_film 51 = .ok (.iload_n 2, 1) := by decide +kernel
theorem dX5_film_52 : decode cX5_film 52 = .ok (.invokevirtual 214, 3) := by decide +kernel
theorem dX5_film_55 : decode cX5_film 55 = .ok (.istore 7, 2) := by decide +kernel
theorem dX5_film_57 : decode cX5_film 57 = .ok (.iload 7, 2) := by decide +kernel
theorem dX5_film_59 : decode cX5_film 59 = .ok (.ifCond .ge 6, 3) := by decide +kernel
theorem dX5_film_62 : decode cX5_film 62 = .ok (.iload 7, 2) := by decide +kernel
theorem dX5_film_64 : decode cX5_film 64 = .ok (.ireturn, 1) := by decide +kernel
theorem dX5_film_65 : decode cX5_film 65 = .ok (.aload_n 0, 1) := by decide +kernel
theorem dX5_film_66 : decode cX5_film 66 = .ok (.invokevirtual 174, 3) := by decide +kernel
theorem dX5_film_69 : decode cX5_film 69 = .ok (.iconst 0, 1) := by decide +kernel
theorem dX5_film_70 : decode cX5_film 70 = .ok (.istore 8, 2) := by decide +kernel
theorem dX5_film_72 : decode cX5_film 72 = .ok (.iload 8, 2) := by decide +kernel
theorem dX5_film_74 : decode cX5_film 74 = .ok (.iload_n 2, 1) := by decide +kernel
theorem dX5_film_75 : decode cX5_film 75 = .ok (.if_icmp .ge 36, 3) := by decide +kernel
theorem dX5_film_78 : decode cX5_film 78 = .ok (.aload_n 0, 1) := by decide +kernel
theorem dX5_film_79 : decode cX5_film 79 = .ok (.iload_n 3, 1) := by decide +kernel
theorem dX5_film_80 : decode cX5_film 80 = .ok (.invokevirtual 154, 3) := by decide +kernel
theorem dX5_film_83 : decode cX5_film 83 = .ok (.aload_n 0, 1) := by decide +kernel
theorem dX5_film_84 : decode cX5_film 84 = .ok (.getfield 37, 3) := by decide +kernel
theorem dX5_film_87 : decode cX5_film 87 = .ok (.bipush 24, 2) := by decide +kernel
theorem dX5_film_89 : decode cX5_film 89 = .ok (.iload 4, 2) := by decide +kernel
theorem dX5_film_91 : decode cX5_film 91 = .ok (.imul, 1) := by decide +kernel
theorem dX5_film_92 : decode cX5_film 92 = .ok (.iload 6, 2) := by decide +kernel
theorem dX5_film_94 : decode cX5_film 94 = .ok (.iadd, 1) := by decide +kernel
theorem dX5_film_95 : decode cX5_film 95 = .ok (.iload 8, 2) := by decide +kernel
theorem dX5_film_97 : decode cX5_film 97 = .ok (.iadd, 1) := by decide +kernel
theorem dX5_film_98 : decode cX5_film 98 = .ok (.aload_n 0, 1) := by decide +kernel
theorem dX5_film_99 : decode cX5_film 99 = .ok (.iload_n 1, 1) := by decide +kernel
theorem dX5_film_100 : decode cX5_film 100 = .ok (.invokevirtual 64, 3) := by decide +kernel
theorem dX5_film_103 : decode cX5_film 103 = .ok (.i2l, 1) := by decide +kernel
theorem dX5_film_104 : decode cX5_film 104 = .ok (.lastore, 1) := by decide +kernel
theorem dX5_film_105 : decode cX5_film 105 = .ok (.iinc 8 1, 3) := by decide +kernel
theorem dX5_film_108 : decode cX5_film 108 = .ok (.goto (-36), 3) := by decide +kernel
theorem dX5_film_111 : decode cX5_film 111 = .ok (.aload_n 0, 1) := by decide +kernel
theorem dX5_film_112 : decode cX5_film 112 = .ok (.invokevirtual 181, 3) := by decide +kernel
theorem dX5_film_115 : decode cX5_film 115 = .ok (.iload_n 2, 1) := by decide +kernel
theorem dX5_film_116 : decode cX5_film 116 = .ok (.ireturn, 1) := by decide +kernel
set_option maxRecDepth 20000 in
theorem ggX5_sheet_X5_isSheet : GoodIn wsX5_sheet wsX5_isSheet := goodIn_r _ [7, 8, 9, 10, 6, 11] (by decide +kernel) (by decide +kernel)
set_option maxRecDepth 20000 in
theorem gX5_sheet_X5_isSheet : GoodIn wsX5_sheet (va_wsS RX5 208 yX5_isSheet wsX5_isSheet) := goodIn_app (goodIn_of _ (by decide +kernel)) ggX5_sheet_X5_isSheet
set_option maxRecDepth 20000 in
theorem ggX5_sheet_X5_isLane : GoodIn wsX5_sheet wsX5_isLane := goodIn_r _ [14, 8, 9, 10, 6, 11] (by decide +kernel) (by decide +kernel)
set_option maxRecDepth 20000 in
theorem gX5_sheet_X5_isLane : GoodIn wsX5_sheet (va_wsS RX5 211 yX5_isLane wsX5_isLane) := goodIn_app (goodIn_of _ (by decide +kernel)) ggX5_sheet_X5_isLane
theorem dX5_sheet_0 : decode cX5_sheet 0 = .ok (.iload_n 1, 1) := by decide +kernel
theorem dX5_sheet_1 : decode cX5_sheet 1 = .ok (.invokestatic 208, 3) := by decide +kernel
theorem dX5_sheet_4 : decode cX5_sheet 4 = .ok (.ifCond .eq 16, 3) := by decide +kernel
theorem dX5_sheet_7 : decode cX5_sheet 7 = .ok (.iload_n 2, 1) := by decide +kernel
theorem dX5_sheet_8 : decode cX5_sheet 8 = .ok (.invokestatic 211, 3) := by decide +kernel
theorem dX5_sheet_11 : decode cX5_sheet 11 = .ok (.ifCond .eq 9, 3) := by decide +kernel
theorem dX5_sheet_14 : decode cX5_sheet 14 = .ok (.iload_n 3, 1) := by decide +kernel
theorem dX5_sheet_15 : decode cX5_sheet 15 = .ok (.bipush 24, 2) := by decide +kernel
theorem dX5_sheet_17 : decode cX5_sheet 17 = .ok (.if_icmp .le 5, 3) := by decide +kernel
theorem dX5_sheet_20 : decode cX5_sheet 20 = .ok (.iconst (-1), 1) := by decide +kernel
theorem dX5_sheet_21 : decode cX5_sheet 21 = .ok (.ireturn, 1) := by decide +kernel
theorem dX5_sheet_22 : decode cX5_sheet 22 = .ok (.iload_n 3, 1) := by decide +kernel
theorem dX5_sheet_23 : decode cX5_sheet 23 = .ok (.ifCond .ge 6, 3) := by decide +kernel
theorem dX5_sheet_26 : decode cX5_sheet 26 = .ok (.bipush (-14), 2) := by decide +kernel
theorem dX5_sheet_28 : decode cX5_sheet 28 = .ok (.ireturn, 1) := by decide +kernel
theorem dX5_sheet_29 : decode cX5_sheet 29 = .ok (.aload_n 0, 1) := by decide +kernel
theorem dX5_sheet_30 : decode cX5_sheet 30 = .ok (.getfield 31, 3) := by decide +kernel
theorem dX5_sheet_33 : decode cX5_sheet 33 = .ok (.iload_n 1, 1) := by decide +kernel
theorem dX5_sheet_34 : decode cX5_sheet 34 = .ok (.iload_n 2, 1) := by decide +kernel
theorem dX5_sheet_35 : decode cX5_sheet 35 = .ok (.iastore, 1) := by decide +kernel
theorem dX5_sheet_36 : decode cX5_sheet 36 = .ok (.aload_n 0, 1) := by decide +kernel
theorem dX5_sheet_37 : decode cX5_sheet 37 = .ok (.getfield 34, 3) := by decide +kernel
theorem dX5_sheet_40 : decode cX5_sheet 40 = .ok (.iload_n 1, 1) := by decide +kernel
theorem dX5_sheet_41 : decode cX5_sheet 41 = .ok (.iload_n 3, 1) := by decide +kernel
theorem dX5_sheet_42 : decode cX5_sheet 42 = .ok (.iastore, 1) := by decide +kernel
theorem dX5_sheet_43 : decode cX5_sheet 43 = .ok (.iconst 0, 1) := by decide +kernel
theorem dX5_sheet_44 : decode cX5_sheet 44 = .ok (.istore 4, 2) := by decide +kernel
theorem dX5_sheet_46 : decode cX5_sheet 46 = .ok (.iload 4, 2) := by decide +kernel
theorem dX5_sheet_48 : decode cX5_sheet 48 = .ok (.bipush 24, 2) := by decide +kernel
theorem dX5_sheet_50 : decode cX5_sheet 50 = .ok (.if_icmp .ge 22, 3) := by decide +kernel
theorem dX5_sheet_53 : decode cX5_sheet 53 = .ok (.aload_n 0, 1) := by decide +kernel
theorem dX5_sheet_54 : decode cX5_sheet 54 = .ok (.getfield 37, 3) := by decide +kernel
theorem dX5_sheet_57 : decode cX5_sheet 57 = .ok (.bipush 24, 2) := by decide +kernel
theorem dX5_sheet_59 : decode cX5_sheet 59 = .ok (.iload_n 1, 1) := by decide +kernel
theorem dX5_sheet_60 : decode cX5_sheet 60 = .ok (.imul, 1) := by decide +kernel
theorem dX5_sheet_61 : decode cX5_sheet 61 = .ok (.iload 4, 2) := by decide +kernel
theorem dX5_sheet_63 : decode cX5_sheet 63 = .ok (.iadd, 1) := by decide +kernel
theorem dX5_sheet_64 : decode cX5_sheet 64 = .ok (.lconst 0, 1) := by decide +kernel
theorem dX5_sheet_65 : decode cX5_sheet 65 = .ok (.lastore, 1) := by decide +kernel
theorem dX5_sheet_66 : decode cX5_sheet 66 = .ok (.iinc 4 1, 3) := by decide +kernel
theorem dX5_sheet_69 : decode cX5_sheet 69 = .ok (.goto (-23), 3) := by decide +kernel
theorem dX5_sheet_72 : decode cX5_sheet 72 = .ok (.iload_n 3, 1) := by decide +kernel
theorem dX5_sheet_73 : decode cX5_sheet 73 = .ok (.ireturn, 1) := by decide +kernel
set_option maxRecDepth 20000 in
theorem ggX5_drop_X5_isSheet : GoodIn wsX5_drop wsX5_isSheet := goodIn_r _ [6, 7, 8, 9, 5, 10] (by decide +kernel) (by decide +kernel)
set_option maxRecDepth 20000 in
theorem gX5_drop_X5_isSheet : GoodIn wsX5_drop (va_wsS RX5 208 yX5_isSheet wsX5_isSheet) := goodIn_app (goodIn_of _ (by decide +kernel)) ggX5_drop_X5_isSheet
theorem dX5_drop_0 : decode cX5_drop 0 = .ok (.iload_n 1, 1) := by decide +kernel
theorem dX5_drop_1 : decode cX5_drop 1 = .ok (.invokestatic 208, 3) := by decide +kernel
theorem dX5_drop_4 : decode cX5_drop 4 = .ok (.ifCond .ne 5, 3) := by decide +kernel
theorem dX5_drop_7 : decode cX5_drop 7 = .ok (.iconst (-1), 1) := by decide +kernel
theorem dX5_drop_8 : decode cX5_drop 8 = .ok (.ireturn, 1) := by decide +kernel
theorem dX5_drop_9 : decode cX5_drop 9 = .ok (.aload_n 0, 1) := by decide +kernel
theorem dX5_drop_10 : decode cX5_drop 10 = .ok (.getfield 31, 3) := by decide +kernel
theorem dX5_drop_13 : decode cX5_drop 13 = .ok (.iload_n 1, 1) := by decide +kernel
theorem dX5_drop_14 : decode cX5_drop 14 = .ok (.iaload, 1) := by decide +kernel
theorem dX5_drop_15 : decode cX5_drop 15 = .ok (.ifCond .ge 6, 3) := by decide +kernel
theorem dX5_drop_18 : decode cX5_drop 18 = .ok (.bipush (-11), 2) := by decide +kernel
theorem dX5_drop_20 : decode cX5_drop 20 = .ok (.ireturn, 1) := by decide +kernel
theorem dX5_drop_21 : decode cX5_drop 21 = .ok (.aload_n 0, 1) := by decide +kernel
theorem dX5_drop_22 : decode cX5_drop 22 = .ok (.getfield 31, 3) := by decide +kernel
theorem dX5_drop_25 : decode cX5_drop 25 = .ok (.iload_n 1, 1) := by decide +kernel
theorem dX5_drop_26 : decode cX5_drop 26 = .ok (.iconst (-1), 1) := by decide +kernel
theorem dX5_drop_27 : decode cX5_drop 27 = .ok (.iastore, 1) := by decide +kernel
theorem dX5_drop_28 : decode cX5_drop 28 = .ok (.aload_n 0, 1) := by decide +kernel
theorem dX5_drop_29 : decode cX5_drop 29 = .ok (.getfield 34, 3) := by decide +kernel
theorem dX5_drop_32 : decode cX5_drop 32 = .ok (.iload_n 1, 1) := by decide +kernel
theorem dX5_drop_33 : decode cX5_drop 33 = .ok (.iaload, 1) := by decide +kernel
theorem dX5_drop_34 : decode cX5_drop 34 = .ok (.ireturn, 1) := by decide +kernel
set_option maxRecDepth 20000 in
theorem ggX5_item_X5_isSheet : GoodIn wsX5_item wsX5_isSheet := goodIn_r _ [5, 6, 7, 8, 4, 9] (by decide +kernel) (by decide +kernel)
set_option maxRecDepth 20000 in
theorem gX5_item_X5_isSheet : GoodIn wsX5_item (va_wsS RX5 208 yX5_isSheet wsX5_isSheet) := goodIn_app (goodIn_of _ (by decide +kernel)) ggX5_item_X5_isSheet
set_option maxRecDepth 20000 in
theorem ggX5_item_X5_isLane : GoodIn wsX5_item wsX5_isLane := goodIn_r _ [12, 6, 7, 8, 4, 9] (by decide +kernel) (by decide +kernel)
set_option maxRecDepth 20000 in
theorem gX5_item_X5_isLane : GoodIn wsX5_item (va_wsS RX5 211 yX5_isLane wsX5_isLane) := goodIn_app (goodIn_of _ (by decide +kernel)) ggX5_item_X5_isLane
set_option maxRecDepth 20000 in
theorem ggX5_item_X5_why : GoodIn wsX5_item wsX5_why := goodIn_r _ [16, 17, 18, 19, 20, 21, 22, 23, 24, 25, 26, 27, 28, 29, 30, 31, 32, 33, 34, 35] (by decide +kernel) (by decide +kernel)
set_option maxRecDepth 20000 in
theorem gX5_item_X5_why : GoodIn wsX5_item (wsV RX5 214 RX5 yX5_why wsX5_why) := goodIn_app (goodIn_of _ (by decide +kernel)) ggX5_item_X5_why
theorem dX5_item_0 : decode cX5_item 0 = .ok (.iload_n 1, 1) := by decide +kernel
theorem dX5_item_1 : decode cX5_item 1 = .ok (.invokestatic 208, 3) := by decide +kernel
theorem dX5_item_4 : decode cX5_item 4 = .ok (.ifCond .eq 10, 3) := by decide +kernel
theorem dX5_item_7 : decode cX5_item 7 = .ok (.iload_n 2, 1) := by decide +kernel
theorem dX5_item_8 : decode cX5_item 8 = .ok (.invokestatic 211, 3) := by decide +kernel
theorem dX5_item_11 : decode cX5_item 11 = .ok (.ifCond .ne 5, 3) := by decide +kernel
theorem dX5_item_14 : decode cX5_item 14 = .ok (.iconst (-1), 1) := by decide +kernel
theorem dX5_item_15 : decode cX5_item 15 = .ok (.ireturn, 1) := by decide +kernel
theorem dX5_item_16 : decode cX5_item 16 = .ok (.aload_n 0, 1) := by decide +kernel
theorem dX5_item_17 : decode cX5_item 17 = .ok (.iload_n 1, 1) := by decide +kernel
theorem dX5_item_18 : decode cX5_item 18 = .ok (.iload_n 2, 1) := by decide +kernel
theorem dX5_item_19 : decode cX5_item 19 = .ok (.iload_n 3, 1) := by decide +kernel
theorem dX5_item_20 : decode cX5_item 20 = .ok (.iconst 1, 1) := by decide +kernel
theorem dX5_item_21 : decode cX5_item 21 = .ok (.invokevirtual 214, 3) := by decide +kernel
theorem dX5_item_24 : decode cX5_item 24 = .ok (.istore 6, 2) := by decide +kernel
theorem dX5_item_26 : decode cX5_item 26 = .ok (.iload 6, 2) := by decide +kernel
theorem dX5_item_28 : decode cX5_item 28 = .ok (.ifCond .ge 6, 3) := by decide +kernel
theorem dX5_item_31 : decode cX5_item 31 = .ok (.iload 6, 2) := by decide +kernel
theorem dX5_item_33 : decode cX5_item 33 = .ok (.ireturn, 1) := by decide +kernel
theorem dX5_item_34 : decode cX5_item 34 = .ok (.aload_n 0, 1) := by decide +kernel
theorem dX5_item_35 : decode cX5_item 35 = .ok (.getfield 37, 3) := by decide +kernel
theorem dX5_item_38 : decode cX5_item 38 = .ok (.bipush 24, 2) := by decide +kernel
theorem dX5_item_40 : decode cX5_item 40 = .ok (.iload_n 1, 1) := by decide +kernel
theorem dX5_item_41 : decode cX5_item 41 = .ok (.imul, 1) := by decide +kernel
theorem dX5_item_42 : decode cX5_item 42 = .ok (.iload_n 3, 1) := by decide +kernel
theorem dX5_item_43 : decode cX5_item 43 = .ok (.iadd, 1) := by decide +kernel
theorem dX5_item_44 : decode cX5_item 44 = .ok (.iload_n 2, 1) := by decide +kernel
theorem dX5_item_45 : decode cX5_item 45 = .ok (.ifCond .ne 11, 3) := by decide +kernel
theorem dX5_item_48 : decode cX5_item 48 = .ok (.lload 4, 2) := by decide +kernel
theorem dX5_item_50 : decode cX5_item 50 = .ok (.l2i, 1) := by decide +kernel
theorem dX5_item_51 : decode cX5_item 51 = .ok (.i2b, 1) := by decide +kernel
theorem dX5_item_52 : decode cX5_item 52 = .ok (.i2l, 1) := by decide +kernel
theorem dX5_item_53 : decode cX5_item 53 = .ok (.goto 30, 3) := by decide +kernel
theorem dX5_item_56 : decode cX5_item 56 = .ok (.iload_n 2, 1) := by decide +kernel
theorem dX5_item_57 : decode cX5_item 57 = .ok (.iconst 1, 1) := by decide +kernel
theorem dX5_item_58 : decode cX5_item 58 = .ok (.if_icmp .ne 11, 3) := by decide +kernel
theorem dX5_item_61 : decode cX5_item 61 = .ok (.lload 4, 2) := by decide +kernel
theorem dX5_item_63 : decode cX5_item 63 = .ok (.l2i, 1) := by decide +kernel
theorem dX5_item_64 : decode cX5_item 64 = .ok (.i2s, 1) := by decide +kernel
theorem dX5_item_65 : decode cX5_item 65 = .ok (.i2l, 1) := by decide +kernel
theorem dX5_item_66 : decode cX5_item 66 = .ok (.goto 17, 3) := by decide +kernel
theorem dX5_item_69 : decode cX5_item 69 = .ok (.iload_n 2, 1) := by decide +kernel
theorem dX5_item_70 : decode cX5_item 70 = .ok (.iconst 2, 1) := by decide +kernel
theorem dX5_item_71 : decode cX5_item 71 = .ok (.if_icmp .ne 10, 3) := by decide +kernel
theorem dX5_item_74 : decode cX5_item 74 = .ok (.lload 4, 2) := by decide +kernel
theorem dX5_item_76 : decode cX5_item 76 = .ok (.l2i, 1) := by decide +kernel
theorem dX5_item_77 : decode cX5_item 77 = .ok (.i2l, 1) := by decide +kernel
theorem dX5_item_78 : decode cX5_item 78 = .ok (.goto 5, 3) := by decide +kernel
theorem dX5_item_81 : decode cX5_item 81 = .ok (.lload 4, 2) := by decide +kernel
theorem dX5_item_83 : decode cX5_item 83 = .ok (.lastore, 1) := by decide +kernel
theorem dX5_item_84 : decode cX5_item 84 = .ok (.iconst 1, 1) := by decide +kernel
theorem dX5_item_85 : decode cX5_item 85 = .ok (.ireturn, 1) := by decide +kernel
set_option maxRecDepth 20000 in
theorem ggX5_copy_X5_isSheet : GoodIn wsX5_copy wsX5_isSheet := goodIn_r _ [7, 8, 9, 10, 6, 11] (by decide +kernel) (by decide +kernel)
set_option maxRecDepth 20000 in
theorem gX5_copy_X5_isSheet : GoodIn wsX5_copy (va_wsS RX5 208 yX5_isSheet wsX5_isSheet) := goodIn_app (goodIn_of _ (by decide +kernel)) ggX5_copy_X5_isSheet
set_option maxRecDepth 20000 in
theorem ggX5_copy_X5_why : GoodIn wsX5_copy wsX5_why := goodIn_r _ [15, 1, 16, 17, 18, 19, 20, 21, 22, 23, 24, 25, 26, 27, 28, 29, 30, 31, 32, 33] (by decide +kernel) (by decide +kernel)
set_option maxRecDepth 20000 in
theorem gX5_copy_X5_why : GoodIn wsX5_copy (wsV RX5 214 RX5 yX5_why wsX5_why) := goodIn_app (goodIn_of _ (by decide +kernel)) ggX5_copy_X5_why
theorem dX5_copy_0 : decode cX5_copy 0 = .ok (.iload_n 1, 1) := by decide +kernel
theorem dX5_copy_1 : decode cX5_copy 1 = .ok (.invokestatic 208, 3) := by decide +kernel
theorem dX5_copy_4 : decode cX5_copy 4 = .ok (.ifCond .eq 10, 3) := by decide +kernel
theorem dX5_copy_7 : decode cX5_copy 7 = .ok (.iload_n 3, 1) := by decide +kernel
theorem dX5_copy_8 : decode cX5_copy 8 = .ok (.invokestatic 208, 3) := by decide +kernel
theorem dX5_copy_11 : decode cX5_copy 11 = .ok (.ifCond .ne 5, 3) := by decide +kernel
theorem dX5_copy_14 : decode cX5_copy 14 = .ok (.iconst (-1), 1) := by decide +kernel
theorem dX5_copy_15 : decode cX5_copy 15 = .ok (.ireturn, 1) := by decide +kernel
theorem dX5_copy_16 : decode cX5_copy 16 = .ok (.aload_n 0, 1) := by decide +kernel
theorem dX5_copy_17 : decode cX5_copy 17 = .ok (.getfield 31, 3) := by decide +kernel
theorem dX5_copy_20 : decode cX5_copy 20 = .ok (.iload_n 1, 1) := by decide +kernel
theorem dX5_copy_21 : decode cX5_copy 21 = .ok (.iaload, 1) := by decide +kernel
