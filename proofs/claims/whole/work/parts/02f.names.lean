theorem dX5_court_55 : decode cX5_court 55 = .ok (.getfield 123, 3) := by decide +kernel
theorem dX5_court_58 : decode cX5_court 58 = .ok (.ifCond .ne 16, 3) := by decide +kernel
theorem dX5_court_61 : decode cX5_court 61 = .ok (.aload_n 0, 1) := by decide +kernel
theorem dX5_court_62 : decode cX5_court 62 = .ok (.invokevirtual 127, 3) := by decide +kernel
theorem dX5_court_65 : decode cX5_court 65 = .ok (.bipush 59, 2) := by decide +kernel
theorem dX5_court_67 : decode cX5_court 67 = .ok (.if_icmp .ne 7, 3) := by decide +kernel
theorem dX5_court_70 : decode cX5_court 70 = .ok (.iconst 1, 1) := by decide +kernel
theorem dX5_court_71 : decode cX5_court 71 = .ok (.goto 4, 3) := by decide +kernel
theorem dX5_court_74 : decode cX5_court 74 = .ok (.iconst 0, 1) := by decide +kernel
theorem dX5_court_75 : decode cX5_court 75 = .ok (.invokevirtual 134, 3) := by decide +kernel
theorem dX5_court_78 : decode cX5_court 78 = .ok (.aload_n 0, 1) := by decide +kernel
theorem dX5_court_79 : decode cX5_court 79 = .ok (.invokevirtual 142, 3) := by decide +kernel
theorem dX5_court_82 : decode cX5_court 82 = .ok (.istore_n 3, 1) := by decide +kernel
theorem dX5_court_83 : decode cX5_court 83 = .ok (.aload_n 0, 1) := by decide +kernel
theorem dX5_court_84 : decode cX5_court 84 = .ok (.aload_n 0, 1) := by decide +kernel
theorem dX5_court_85 : decode cX5_court 85 = .ok (.getfield 123, 3) := by decide +kernel
theorem dX5_court_88 : decode cX5_court 88 = .ok (.ifCond .ne 10, 3) := by decide +kernel
theorem dX5_court_91 : decode cX5_court 91 = .ok (.aload_n 0, 1) := by decide +kernel
theorem dX5_court_92 : decode cX5_court 92 = .ok (.invokevirtual 127, 3) := by decide +kernel
theorem dX5_court_95 : decode cX5_court 95 = .ok (.ifCond .eq 7, 3) := by decide +kernel
theorem dX5_court_98 : decode cX5_court 98 = .ok (.iconst 1, 1) := by decide +kernel
theorem dX5_court_99 : decode cX5_court 99 = .ok (.goto 4, 3) := by decide +kernel
theorem dX5_court_102 : decode cX5_court 102 = .ok (.iconst 0, 1) := by decide +kernel
theorem dX5_court_103 : decode cX5_court 103 = .ok (.putfield 123, 3) := by decide +kernel
theorem dX5_court_106 : decode cX5_court 106 = .ok (.aload_n 0, 1) := by decide +kernel
theorem dX5_court_107 : decode cX5_court 107 = .ok (.iconst 0, 1) := by decide +kernel
theorem dX5_court_108 : decode cX5_court 108 = .ok (.putfield 117, 3) := by decide +kernel
theorem dX5_court_111 : decode cX5_court 111 = .ok (.aload_n 0, 1) := by decide +kernel
theorem dX5_court_112 : decode cX5_court 112 = .ok (.getfield 123, 3) := by decide +kernel
theorem dX5_court_115 : decode cX5_court 115 = .ok (.ifCond .eq 11, 3) := by decide +kernel
theorem dX5_court_118 : decode cX5_court 118 = .ok (.bipush (-20), 2) := by decide +kernel
theorem dX5_court_120 : decode cX5_court 120 = .ok (.aload_n 0, 1) := by decide +kernel
theorem dX5_court_121 : decode cX5_court 121 = .ok (.getfield 120, 3) := by decide +kernel
theorem dX5_court_124 : decode cX5_court 124 = .ok (.isub, 1) := by decide +kernel
theorem dX5_court_125 : decode cX5_court 125 = .ok (.ireturn, 1) := by decide +kernel
theorem dX5_court_126 : decode cX5_court 126 = .ok (.aload_n 0, 1) := by decide +kernel
theorem dX5_court_127 : decode cX5_court 127 = .ok (.getfield 7, 3) := by decide +kernel
theorem dX5_court_130 : decode cX5_court 130 = .ok (.iconst 0, 1) := by decide +kernel
theorem dX5_court_131 : decode cX5_court 131 = .ok (.iconst 0, 1) := by decide +kernel
theorem dX5_court_132 : decode cX5_court 132 = .ok (.iastore, 1) := by decide +kernel
theorem dX5_court_133 : decode cX5_court 133 = .ok (.aload_n 0, 1) := by decide +kernel
theorem dX5_court_134 : decode cX5_court 134 = .ok (.getfield 7, 3) := by decide +kernel
theorem dX5_court_137 : decode cX5_court 137 = .ok (.iconst 1, 1) := by decide +kernel
theorem dX5_court_138 : decode cX5_court 138 = .ok (.iconst 0, 1) := by decide +kernel
theorem dX5_court_139 : decode cX5_court 139 = .ok (.iastore, 1) := by decide +kernel
theorem dX5_court_140 : decode cX5_court 140 = .ok (.aload_n 0, 1) := by decide +kernel
theorem dX5_court_141 : decode cX5_court 141 = .ok (.getfield 7, 3) := by decide +kernel
theorem dX5_court_144 : decode cX5_court 144 = .ok (.iconst 2, 1) := by decide +kernel
theorem dX5_court_145 : decode cX5_court 145 = .ok (.iload_n 1, 1) := by decide +kernel
theorem dX5_court_146 : decode cX5_court 146 = .ok (.iastore, 1) := by decide +kernel
theorem dX5_court_147 : decode cX5_court 147 = .ok (.aload_n 0, 1) := by decide +kernel
theorem dX5_court_148 : decode cX5_court 148 = .ok (.getfield 7, 3) := by decide +kernel
theorem dX5_court_151 : decode cX5_court 151 = .ok (.iconst 3, 1) := by decide +kernel
theorem dX5_court_152 : decode cX5_court 152 = .ok (.iload_n 2, 1) := by decide +kernel
theorem dX5_court_153 : decode cX5_court 153 = .ok (.iastore, 1) := by decide +kernel
theorem dX5_court_154 : decode cX5_court 154 = .ok (.iconst 0, 1) := by decide +kernel
theorem dX5_court_155 : decode cX5_court 155 = .ok (.istore 4, 2) := by decide +kernel
theorem dX5_court_157 : decode cX5_court 157 = .ok (.iload 4, 2) := by decide +kernel
theorem dX5_court_159 : decode cX5_court 159 = .ok (.iload_n 3, 1) := by decide +kernel
theorem dX5_court_160 : decode cX5_court 160 = .ok (.if_icmp .ge 79, 3) := by decide +kernel
theorem dX5_court_163 : decode cX5_court 163 = .ok (.aload_n 0, 1) := by decide +kernel
theorem dX5_court_164 : decode cX5_court 164 = .ok (.aload_n 0, 1) := by decide +kernel
theorem dX5_court_165 : decode cX5_court 165 = .ok (.getfield 16, 3) := by decide +kernel
theorem dX5_court_168 : decode cX5_court 168 = .ok (.iconst 2, 1) := by decide +kernel
theorem dX5_court_169 : decode cX5_court 169 = .ok (.iload 4, 2) := by decide +kernel
theorem dX5_court_171 : decode cX5_court 171 = .ok (.imul, 1) := by decide +kernel
theorem dX5_court_172 : decode cX5_court 172 = .ok (.iaload, 1) := by decide +kernel
theorem dX5_court_173 : decode cX5_court 173 = .ok (.invokevirtual 73, 3) := by decide +kernel
theorem dX5_court_176 : decode cX5_court 176 = .ok (.iconst 0, 1) := by decide +kernel
theorem dX5_court_177 : decode cX5_court 177 = .ok (.istore 5, 2) := by decide +kernel
theorem dX5_court_179 : decode cX5_court 179 = .ok (.iload 5, 2) := by decide +kernel
theorem dX5_court_181 : decode cX5_court 181 = .ok (.bipush 8, 2) := by decide +kernel
theorem dX5_court_183 : decode cX5_court 183 = .ok (.if_icmp .ge 50, 3) := by decide +kernel
theorem dX5_court_186 : decode cX5_court 186 = .ok (.aload_n 0, 1) := by decide +kernel
theorem dX5_court_187 : decode cX5_court 187 = .ok (.getfield 7, 3) := by decide +kernel
theorem dX5_court_190 : decode cX5_court 190 = .ok (.bipush 17, 2) := by decide +kernel
theorem dX5_court_192 : decode cX5_court 192 = .ok (.bipush 8, 2) := by decide +kernel
theorem dX5_court_194 : decode cX5_court 194 = .ok (.iload 4, 2) := by decide +kernel
theorem dX5_court_196 : decode cX5_court 196 = .ok (.imul, 1) := by decide +kernel
theorem dX5_court_197 : decode cX5_court 197 = .ok (.iadd, 1) := by decide +kernel
theorem dX5_court_198 : decode cX5_court 198 = .ok (.iload 5, 2) := by decide +kernel
theorem dX5_court_200 : decode cX5_court 200 = .ok (.iadd, 1) := by decide +kernel
theorem dX5_court_201 : decode cX5_court 201 = .ok (.aload_n 0, 1) := by decide +kernel
theorem dX5_court_202 : decode cX5_court 202 = .ok (.getfield 16, 3) := by decide +kernel
theorem dX5_court_205 : decode cX5_court 205 = .ok (.iconst 2, 1) := by decide +kernel
theorem dX5_court_206 : decode cX5_court 206 = .ok (.iload 4, 2) := by decide +kernel
theorem dX5_court_208 : decode cX5_court 208 = .ok (.imul, 1) := by decide +kernel
theorem dX5_court_209 : decode cX5_court 209 = .ok (.iconst 1, 1) := by decide +kernel
theorem dX5_court_210 : decode cX5_court 210 = .ok (.iadd, 1) := by decide +kernel
theorem dX5_court_211 : decode cX5_court 211 = .ok (.iaload, 1) := by decide +kernel
theorem dX5_court_212 : decode cX5_court 212 = .ok (.iload 5, 2) := by decide +kernel
theorem dX5_court_214 : decode cX5_court 214 = .ok (.ishr, 1) := by decide +kernel
theorem dX5_court_215 : decode cX5_court 215 = .ok (.iconst 1, 1) := by decide +kernel
theorem dX5_court_216 : decode cX5_court 216 = .ok (.iand, 1) := by decide +kernel
theorem dX5_court_217 : decode cX5_court 217 = .ok (.iconst 1, 1) := by decide +kernel
theorem dX5_court_218 : decode cX5_court 218 = .ok (.if_icmp .ne 7, 3) := by decide +kernel
theorem dX5_court_221 : decode cX5_court 221 = .ok (.iload_n 1, 1) := by decide +kernel
theorem dX5_court_222 : decode cX5_court 222 = .ok (.goto 4, 3) := by decide +kernel
theorem dX5_court_225 : decode cX5_court 225 = .ok (.iconst (-1), 1) := by decide +kernel
theorem dX5_court_226 : decode cX5_court 226 = .ok (.iastore, 1) := by decide +kernel
theorem dX5_court_227 : decode cX5_court 227 = .ok (.iinc 5 1, 3) := by decide +kernel
theorem dX5_court_230 : decode cX5_court 230 = .ok (.goto (-51), 3) := by decide +kernel
theorem dX5_court_233 : decode cX5_court 233 = .ok (.iinc 4 1, 3) := by decide +kernel
theorem dX5_court_236 : decode cX5_court 236 = .ok (.goto (-79), 3) := by decide +kernel
theorem dX5_court_239 : decode cX5_court 239 = .ok (.iload_n 3, 1) := by decide +kernel
theorem dX5_court_240 : decode cX5_court 240 = .ok (.ireturn, 1) := by decide +kernel
theorem dX5_weakens_0 : decode cX5_weakens 0 = .ok (.aload_n 0, 1) := by decide +kernel
theorem dX5_weakens_1 : decode cX5_weakens 1 = .ok (.getfield 7, 3) := by decide +kernel
theorem dX5_weakens_4 : decode cX5_weakens 4 = .ok (.iconst 5, 1) := by decide +kernel
theorem dX5_weakens_5 : decode cX5_weakens 5 = .ok (.iload_n 1, 1) := by decide +kernel
theorem dX5_weakens_6 : decode cX5_weakens 6 = .ok (.iadd, 1) := by decide +kernel
theorem dX5_weakens_7 : decode cX5_weakens 7 = .ok (.iaload, 1) := by decide +kernel
theorem dX5_weakens_8 : decode cX5_weakens 8 = .ok (.tableswitch 69 0 3 #[32, 36, 69, 42], 32) := by decide +kernel
theorem dX5_weakens_40 : decode cX5_weakens 40 = .ok (.iload_n 2, 1) := by decide +kernel
theorem dX5_weakens_41 : decode cX5_weakens 41 = .ok (.iconst 2, 1) := by decide +kernel
theorem dX5_weakens_42 : decode cX5_weakens 42 = .ok (.idiv, 1) := by decide +kernel
theorem dX5_weakens_43 : decode cX5_weakens 43 = .ok (.ireturn, 1) := by decide +kernel
theorem dX5_weakens_44 : decode cX5_weakens 44 = .ok (.iload_n 2, 1) := by decide +kernel
theorem dX5_weakens_45 : decode cX5_weakens 45 = .ok (.iconst 2, 1) := by decide +kernel
theorem dX5_weakens_46 : decode cX5_weakens 46 = .ok (.idiv, 1) := by decide +kernel
theorem dX5_weakens_47 : decode cX5_weakens 47 = .ok (.iconst 1, 1) := by decide +kernel
theorem dX5_weakens_48 : decode cX5_weakens 48 = .ok (.iadd, 1) := by decide +kernel
theorem dX5_weakens_49 : decode cX5_weakens 49 = .ok (.ireturn, 1) := by decide +kernel
theorem dX5_weakens_50 : decode cX5_weakens 50 = .ok (.aload_n 0, 1) := by decide +kernel
theorem dX5_weakens_51 : decode cX5_weakens 51 = .ok (.getfield 7, 3) := by decide +kernel
theorem dX5_weakens_54 : decode cX5_weakens 54 = .ok (.iconst 1, 1) := by decide +kernel
theorem dX5_weakens_55 : decode cX5_weakens 55 = .ok (.iaload, 1) := by decide +kernel
theorem dX5_weakens_56 : decode cX5_weakens 56 = .ok (.iconst 3, 1) := by decide +kernel
theorem dX5_weakens_57 : decode cX5_weakens 57 = .ok (.irem, 1) := by decide +kernel
theorem dX5_weakens_58 : decode cX5_weakens 58 = .ok (.ifCond .ne 13, 3) := by decide +kernel
theorem dX5_weakens_61 : decode cX5_weakens 61 = .ok (.iconst 2, 1) := by decide +kernel
theorem dX5_weakens_62 : decode cX5_weakens 62 = .ok (.iload_n 2, 1) := by decide +kernel
theorem dX5_weakens_63 : decode cX5_weakens 63 = .ok (.iconst 2, 1) := by decide +kernel
theorem dX5_weakens_64 : decode cX5_weakens 64 = .ok (.idiv, 1) := by decide +kernel
theorem dX5_weakens_65 : decode cX5_weakens 65 = .ok (.iconst 1, 1) := by decide +kernel
theorem dX5_weakens_66 : decode cX5_weakens 66 = .ok (.iadd, 1) := by decide +kernel
theorem dX5_weakens_67 : decode cX5_weakens 67 = .ok (.imul, 1) := by decide +kernel
theorem dX5_weakens_68 : decode cX5_weakens 68 = .ok (.goto 8, 3) := by decide +kernel
theorem dX5_weakens_71 : decode cX5_weakens 71 = .ok (.iload_n 2, 1) := by decide +kernel
theorem dX5_weakens_72 : decode cX5_weakens 72 = .ok (.iconst 2, 1) := by decide +kernel
theorem dX5_weakens_73 : decode cX5_weakens 73 = .ok (.idiv, 1) := by decide +kernel
theorem dX5_weakens_74 : decode cX5_weakens 74 = .ok (.iconst 1, 1) := by decide +kernel
theorem dX5_weakens_75 : decode cX5_weakens 75 = .ok (.iadd, 1) := by decide +kernel
theorem dX5_weakens_76 : decode cX5_weakens 76 = .ok (.ireturn, 1) := by decide +kernel
theorem dX5_weakens_77 : decode cX5_weakens 77 = .ok (.iconst 0, 1) := by decide +kernel
theorem dX5_weakens_78 : decode cX5_weakens 78 = .ok (.ireturn, 1) := by decide +kernel
theorem dX5_isSilent_0 : decode cX5_isSilent 0 = .ok (.aload_n 0, 1) := by decide +kernel
theorem dX5_isSilent_1 : decode cX5_isSilent 1 = .ok (.getfield 7, 3) := by decide +kernel
theorem dX5_isSilent_4 : decode cX5_isSilent 4 = .ok (.iconst 5, 1) := by decide +kernel
theorem dX5_isSilent_5 : decode cX5_isSilent 5 = .ok (.iload_n 1, 1) := by decide +kernel
theorem dX5_isSilent_6 : decode cX5_isSilent 6 = .ok (.iadd, 1) := by decide +kernel
theorem dX5_isSilent_7 : decode cX5_isSilent 7 = .ok (.iaload, 1) := by decide +kernel
theorem dX5_isSilent_8 : decode cX5_isSilent 8 = .ok (.iconst 2, 1) := by decide +kernel
theorem dX5_isSilent_9 : decode cX5_isSilent 9 = .ok (.if_icmp .eq 15, 3) := by decide +kernel
theorem dX5_isSilent_12 : decode cX5_isSilent 12 = .ok (.aload_n 0, 1) := by decide +kernel
theorem dX5_isSilent_13 : decode cX5_isSilent 13 = .ok (.getfield 7, 3) := by decide +kernel
theorem dX5_isSilent_16 : decode cX5_isSilent 16 = .ok (.iconst 5, 1) := by decide +kernel
theorem dX5_isSilent_17 : decode cX5_isSilent 17 = .ok (.iload_n 1, 1) := by decide +kernel
theorem dX5_isSilent_18 : decode cX5_isSilent 18 = .ok (.iadd, 1) := by decide +kernel
theorem dX5_isSilent_19 : decode cX5_isSilent 19 = .ok (.iaload, 1) := by decide +kernel
theorem dX5_isSilent_20 : decode cX5_isSilent 20 = .ok (.iconst 4, 1) := by decide +kernel
theorem dX5_isSilent_21 : decode cX5_isSilent 21 = .ok (.if_icmp .ne 7, 3) := by decide +kernel
theorem dX5_isSilent_24 : decode cX5_isSilent 24 = .ok (.iconst 1, 1) := by decide +kernel
theorem dX5_isSilent_25 : decode cX5_isSilent 25 = .ok (.goto 4, 3) := by decide +kernel
theorem dX5_isSilent_28 : decode cX5_isSilent 28 = .ok (.iconst 0, 1) := by decide +kernel
theorem dX5_isSilent_29 : decode cX5_isSilent 29 = .ok (.ireturn, 1) := by decide +kernel
set_option maxRecDepth 20000 in
theorem ggX5_goesBy_X5_weakens : GoodIn wsX5_goesBy wsX5_weakens := goodIn_r _ [7, 1, 32, 33, 34, 35, 36, 37, 38, 39, 40, 41, 42, 43, 44, 45, 46, 47, 48] (by decide +kernel) (by decide +kernel)
set_option maxRecDepth 20000 in
theorem gX5_goesBy_X5_weakens : GoodIn wsX5_goesBy (wsV RX5 145 RX5 yX5_weakens wsX5_weakens) := goodIn_app (goodIn_of _ (by decide +kernel)) ggX5_goesBy_X5_weakens
set_option maxRecDepth 20000 in
theorem ggX5_goesBy_X5_sealOf : GoodIn wsX5_goesBy wsX5_sealOf := goodIn_r _ [11, 1, 32, 33, 34, 35, 36, 37, 38, 39, 40, 41, 42, 43, 44, 45, 46, 47, 48] (by decide +kernel) (by decide +kernel)
set_option maxRecDepth 20000 in
theorem gX5_goesBy_X5_sealOf : GoodIn wsX5_goesBy (wsV RX5 52 RX5 yX5_sealOf wsX5_sealOf) := goodIn_app (goodIn_of _ (by decide +kernel)) ggX5_goesBy_X5_sealOf
set_option maxRecDepth 20000 in
theorem ggX5_goesBy_X5_isSilent : GoodIn wsX5_goesBy wsX5_isSilent := goodIn_r _ [15, 1, 32, 33, 34, 35, 36, 37, 38, 39, 40, 41, 42, 43, 44, 45, 46, 47, 48] (by decide +kernel) (by decide +kernel)
set_option maxRecDepth 20000 in
theorem gX5_goesBy_X5_isSilent : GoodIn wsX5_goesBy (wsV RX5 148 RX5 yX5_isSilent wsX5_isSilent) := goodIn_app (goodIn_of _ (by decide +kernel)) ggX5_goesBy_X5_isSilent
set_option maxRecDepth 20000 in
theorem ggX5_goesBy_X5_beside : GoodIn wsX5_goesBy wsX5_beside := goodIn_r _ [19, 1, 20, 21, 22, 6, 23, 32, 33, 34, 35, 36, 37, 38, 39, 40, 41, 42, 43, 44, 45, 46, 47, 48] (by decide +kernel) (by decide +kernel)
set_option maxRecDepth 20000 in
theorem gX5_goesBy_X5_beside : GoodIn wsX5_goesBy (wsV RX5 93 RX5 yX5_beside wsX5_beside) := goodIn_app (goodIn_of _ (by decide +kernel)) ggX5_goesBy_X5_beside
set_option maxRecDepth 20000 in
theorem ggX5_goesBy_X5_knows : GoodIn wsX5_goesBy wsX5_knows := goodIn_r _ [27, 8, 9, 10, 6, 11, 1, 32, 33, 34, 35, 36, 37, 38, 39, 40, 41, 42, 43, 44, 45, 46, 47, 48] (by decide +kernel) (by decide +kernel)
set_option maxRecDepth 20000 in
theorem gX5_goesBy_X5_knows : GoodIn wsX5_goesBy (wsV RX5 56 RX5 yX5_knows wsX5_knows) := goodIn_app (goodIn_of _ (by decide +kernel)) ggX5_goesBy_X5_knows
set_option maxRecDepth 20000 in
theorem ggX5_goesBy_X5_renews : GoodIn wsX5_goesBy wsX5_renews := goodIn_r _ [31, 1, 32, 33, 34, 35, 36, 37, 38, 39, 40, 41, 42, 43, 44, 45, 46, 47, 48] (by decide +kernel) (by decide +kernel)
set_option maxRecDepth 20000 in
theorem gX5_goesBy_X5_renews : GoodIn wsX5_goesBy (wsV RX5 151 RX5 yX5_renews wsX5_renews) := goodIn_app (goodIn_of _ (by decide +kernel)) ggX5_goesBy_X5_renews
theorem dX5_goesBy_0 : decode cX5_goesBy 0 = .ok (.iconst 0, 1) := by decide +kernel
theorem dX5_goesBy_1 : decode cX5_goesBy 1 = .ok (.istore_n 2, 1) := by decide +kernel
theorem dX5_goesBy_2 : decode cX5_goesBy 2 = .ok (.iload_n 2, 1) := by decide +kernel
theorem dX5_goesBy_3 : decode cX5_goesBy 3 = .ok (.aload_n 0, 1) := by decide +kernel
theorem dX5_goesBy_4 : decode cX5_goesBy 4 = .ok (.getfield 7, 3) := by decide +kernel
theorem dX5_goesBy_7 : decode cX5_goesBy 7 = .ok (.iconst 0, 1) := by decide +kernel
theorem dX5_goesBy_8 : decode cX5_goesBy 8 = .ok (.iaload, 1) := by decide +kernel
theorem dX5_goesBy_9 : decode cX5_goesBy 9 = .ok (.if_icmp .ge 89, 3) := by decide +kernel
theorem dX5_goesBy_12 : decode cX5_goesBy 12 = .ok (.aload_n 0, 1) := by decide +kernel
theorem dX5_goesBy_13 : decode cX5_goesBy 13 = .ok (.iload_n 2, 1) := by decide +kernel
theorem dX5_goesBy_14 : decode cX5_goesBy 14 = .ok (.iload_n 1, 1) := by decide +kernel
theorem dX5_goesBy_15 : decode cX5_goesBy 15 = .ok (.invokevirtual 145, 3) := by decide +kernel
theorem dX5_goesBy_18 : decode cX5_goesBy 18 = .ok (.istore_n 3, 1) := by decide +kernel
theorem dX5_goesBy_19 : decode cX5_goesBy 19 = .ok (.iconst 0, 1) := by decide +kernel
theorem dX5_goesBy_20 : decode cX5_goesBy 20 = .ok (.istore 4, 2) := by decide +kernel
theorem dX5_goesBy_22 : decode cX5_goesBy 22 = .ok (.iload 4, 2) := by decide +kernel
theorem dX5_goesBy_24 : decode cX5_goesBy 24 = .ok (.bipush 8, 2) := by decide +kernel
theorem dX5_goesBy_26 : decode cX5_goesBy 26 = .ok (.if_icmp .ge 66, 3) := by decide +kernel
theorem dX5_goesBy_29 : decode cX5_goesBy 29 = .ok (.bipush 17, 2) := by decide +kernel
theorem dX5_goesBy_31 : decode cX5_goesBy 31 = .ok (.bipush 8, 2) := by decide +kernel
theorem dX5_goesBy_33 : decode cX5_goesBy 33 = .ok (.iload_n 2, 1) := by decide +kernel
theorem dX5_goesBy_34 : decode cX5_goesBy 34 = .ok (.imul, 1) := by decide +kernel
theorem dX5_goesBy_35 : decode cX5_goesBy 35 = .ok (.iadd, 1) := by decide +kernel
theorem dX5_goesBy_36 : decode cX5_goesBy 36 = .ok (.iload 4, 2) := by decide +kernel
theorem dX5_goesBy_38 : decode cX5_goesBy 38 = .ok (.iadd, 1) := by decide +kernel
theorem dX5_goesBy_39 : decode cX5_goesBy 39 = .ok (.istore 5, 2) := by decide +kernel
theorem dX5_goesBy_41 : decode cX5_goesBy 41 = .ok (.aload_n 0, 1) := by decide +kernel
theorem dX5_goesBy_42 : decode cX5_goesBy 42 = .ok (.getfield 7, 3) := by decide +kernel
theorem dX5_goesBy_45 : decode cX5_goesBy 45 = .ok (.iload 5, 2) := by decide +kernel
theorem dX5_goesBy_47 : decode cX5_goesBy 47 = .ok (.aload_n 0, 1) := by decide +kernel
theorem dX5_goesBy_48 : decode cX5_goesBy 48 = .ok (.getfield 7, 3) := by decide +kernel
theorem dX5_goesBy_51 : decode cX5_goesBy 51 = .ok (.iload 5, 2) := by decide +kernel
theorem dX5_goesBy_53 : decode cX5_goesBy 53 = .ok (.iaload, 1) := by decide +kernel
theorem dX5_goesBy_54 : decode cX5_goesBy 54 = .ok (.ifCond .ge 7, 3) := by decide +kernel
theorem dX5_goesBy_57 : decode cX5_goesBy 57 = .ok (.iconst (-1), 1) := by decide +kernel
theorem dX5_goesBy_58 : decode cX5_goesBy 58 = .ok (.goto 27, 3) := by decide +kernel
theorem dX5_goesBy_61 : decode cX5_goesBy 61 = .ok (.aload_n 0, 1) := by decide +kernel
theorem dX5_goesBy_62 : decode cX5_goesBy 62 = .ok (.getfield 7, 3) := by decide +kernel
theorem dX5_goesBy_65 : decode cX5_goesBy 65 = .ok (.iload 5, 2) := by decide +kernel
theorem dX5_goesBy_67 : decode cX5_goesBy 67 = .ok (.iaload, 1) := by decide +kernel
theorem dX5_goesBy_68 : decode cX5_goesBy 68 = .ok (.iload_n 3, 1) := by decide +kernel
theorem dX5_goesBy_69 : decode cX5_goesBy 69 = .ok (.if_icmp .le 15, 3) := by decide +kernel
theorem dX5_goesBy_72 : decode cX5_goesBy 72 = .ok (.aload_n 0, 1) := by decide +kernel
theorem dX5_goesBy_73 : decode cX5_goesBy 73 = .ok (.getfield 7, 3) := by decide +kernel
theorem dX5_goesBy_76 : decode cX5_goesBy 76 = .ok (.iload 5, 2) := by decide +kernel
theorem dX5_goesBy_78 : decode cX5_goesBy 78 = .ok (.iaload, 1) := by decide +kernel
theorem dX5_goesBy_79 : decode cX5_goesBy 79 = .ok (.iload_n 3, 1) := by decide +kernel
theorem dX5_goesBy_80 : decode cX5_goesBy 80 = .ok (.isub, 1) := by decide +kernel
theorem dX5_goesBy_81 : decode cX5_goesBy 81 = .ok (.goto 4, 3) := by decide +kernel
theorem dX5_goesBy_84 : decode cX5_goesBy 84 = .ok (.iconst 0, 1) := by decide +kernel
theorem dX5_goesBy_85 : decode cX5_goesBy 85 = .ok (.iastore, 1) := by decide +kernel
theorem dX5_goesBy_86 : decode cX5_goesBy 86 = .ok (.iinc 4 1, 3) := by decide +kernel
theorem dX5_goesBy_89 : decode cX5_goesBy 89 = .ok (.goto (-67), 3) := by decide +kernel
theorem dX5_goesBy_92 : decode cX5_goesBy 92 = .ok (.iinc 2 1, 3) := by decide +kernel
theorem dX5_goesBy_95 : decode cX5_goesBy 95 = .ok (.goto (-93), 3) := by decide +kernel
theorem dX5_goesBy_98 : decode cX5_goesBy 98 = .ok (.iconst 0, 1) := by decide +kernel
theorem dX5_goesBy_99 : decode cX5_goesBy 99 = .ok (.istore_n 2, 1) := by decide +kernel
theorem dX5_goesBy_100 : decode cX5_goesBy 100 = .ok (.iload_n 2, 1) := by decide +kernel
theorem dX5_goesBy_101 : decode cX5_goesBy 101 = .ok (.bipush 8, 2) := by decide +kernel
theorem dX5_goesBy_103 : decode cX5_goesBy 103 = .ok (.if_icmp .ge 84, 3) := by decide +kernel
theorem dX5_goesBy_106 : decode cX5_goesBy 106 = .ok (.aload_n 0, 1) := by decide +kernel
theorem dX5_goesBy_107 : decode cX5_goesBy 107 = .ok (.getfield 19, 3) := by decide +kernel
theorem dX5_goesBy_110 : decode cX5_goesBy 110 = .ok (.iload_n 2, 1) := by decide +kernel
theorem dX5_goesBy_111 : decode cX5_goesBy 111 = .ok (.iconst 0, 1) := by decide +kernel
theorem dX5_goesBy_112 : decode cX5_goesBy 112 = .ok (.iastore, 1) := by decide +kernel
theorem dX5_goesBy_113 : decode cX5_goesBy 113 = .ok (.iconst 0, 1) := by decide +kernel
theorem dX5_goesBy_114 : decode cX5_goesBy 114 = .ok (.istore_n 3, 1) := by decide +kernel
theorem dX5_goesBy_115 : decode cX5_goesBy 115 = .ok (.iload_n 3, 1) := by decide +kernel
theorem dX5_goesBy_116 : decode cX5_goesBy 116 = .ok (.aload_n 0, 1) := by decide +kernel
theorem dX5_goesBy_117 : decode cX5_goesBy 117 = .ok (.getfield 7, 3) := by decide +kernel
theorem dX5_goesBy_120 : decode cX5_goesBy 120 = .ok (.iconst 0, 1) := by decide +kernel
theorem dX5_goesBy_121 : decode cX5_goesBy 121 = .ok (.iaload, 1) := by decide +kernel
theorem dX5_goesBy_122 : decode cX5_goesBy 122 = .ok (.if_icmp .ge 59, 3) := by decide +kernel
theorem dX5_goesBy_125 : decode cX5_goesBy 125 = .ok (.aload_n 0, 1) := by decide +kernel
theorem dX5_goesBy_126 : decode cX5_goesBy 126 = .ok (.iload_n 3, 1) := by decide +kernel
theorem dX5_goesBy_127 : decode cX5_goesBy 127 = .ok (.iload_n 2, 1) := by decide +kernel
theorem dX5_goesBy_128 : decode cX5_goesBy 128 = .ok (.invokevirtual 52, 3) := by decide +kernel
theorem dX5_goesBy_131 : decode cX5_goesBy 131 = .ok (.ifCond .ne 44, 3) := by decide +kernel
theorem dX5_goesBy_134 : decode cX5_goesBy 134 = .ok (.aload_n 0, 1) := by decide +kernel
theorem dX5_goesBy_135 : decode cX5_goesBy 135 = .ok (.iload_n 3, 1) := by decide +kernel
theorem dX5_goesBy_136 : decode cX5_goesBy 136 = .ok (.invokevirtual 148, 3) := by decide +kernel
theorem dX5_goesBy_139 : decode cX5_goesBy 139 = .ok (.ifCond .ne 36, 3) := by decide +kernel
theorem dX5_goesBy_142 : decode cX5_goesBy 142 = .ok (.aload_n 0, 1) := by decide +kernel
theorem dX5_goesBy_143 : decode cX5_goesBy 143 = .ok (.getfield 19, 3) := by decide +kernel
theorem dX5_goesBy_146 : decode cX5_goesBy 146 = .ok (.iload_n 2, 1) := by decide +kernel
theorem dX5_goesBy_147 : decode cX5_goesBy 147 = .ok (.dup2, 1) := by decide +kernel
theorem dX5_goesBy_148 : decode cX5_goesBy 148 = .ok (.iaload, 1) := by decide +kernel
theorem dX5_goesBy_149 : decode cX5_goesBy 149 = .ok (.iconst 1, 1) := by decide +kernel
theorem dX5_goesBy_150 : decode cX5_goesBy 150 = .ok (.aload_n 0, 1) := by decide +kernel
theorem dX5_goesBy_151 : decode cX5_goesBy 151 = .ok (.iload_n 3, 1) := by decide +kernel
theorem dX5_goesBy_152 : decode cX5_goesBy 152 = .ok (.iconst 1, 1) := by decide +kernel
theorem dX5_goesBy_153 : decode cX5_goesBy 153 = .ok (.invokevirtual 93, 3) := by decide +kernel
theorem dX5_goesBy_156 : decode cX5_goesBy 156 = .ok (.ishl, 1) := by decide +kernel
theorem dX5_goesBy_157 : decode cX5_goesBy 157 = .ok (.iconst 1, 1) := by decide +kernel
theorem dX5_goesBy_158 : decode cX5_goesBy 158 = .ok (.aload_n 0, 1) := by decide +kernel
theorem dX5_goesBy_159 : decode cX5_goesBy 159 = .ok (.iload_n 3, 1) := by decide +kernel
theorem dX5_goesBy_160 : decode cX5_goesBy 160 = .ok (.aload_n 0, 1) := by decide +kernel
theorem dX5_goesBy_161 : decode cX5_goesBy 161 = .ok (.getfield 7, 3) := by decide +kernel
theorem dX5_goesBy_164 : decode cX5_goesBy 164 = .ok (.iconst 0, 1) := by decide +kernel
theorem dX5_goesBy_165 : decode cX5_goesBy 165 = .ok (.iaload, 1) := by decide +kernel
theorem dX5_goesBy_166 : decode cX5_goesBy 166 = .ok (.iconst 1, 1) := by decide +kernel
theorem dX5_goesBy_167 : decode cX5_goesBy 167 = .ok (.isub, 1) := by decide +kernel
theorem dX5_goesBy_168 : decode cX5_goesBy 168 = .ok (.invokevirtual 93, 3) := by decide +kernel
theorem dX5_goesBy_171 : decode cX5_goesBy 171 = .ok (.ishl, 1) := by decide +kernel
theorem dX5_goesBy_172 : decode cX5_goesBy 172 = .ok (.ior, 1) := by decide +kernel
theorem dX5_goesBy_173 : decode cX5_goesBy 173 = .ok (.ior, 1) := by decide +kernel
theorem dX5_goesBy_174 : decode cX5_goesBy 174 = .ok (.iastore, 1) := by decide +kernel
theorem dX5_goesBy_175 : decode cX5_goesBy 175 = .ok (.iinc 3 1, 3) := by decide +kernel
theorem dX5_goesBy_178 : decode cX5_goesBy 178 = .ok (.goto (-63), 3) := by decide +kernel
theorem dX5_goesBy_181 : decode cX5_goesBy 181 = .ok (.iinc 2 1, 3) := by decide +kernel
theorem dX5_goesBy_184 : decode cX5_goesBy 184 = .ok (.goto (-84), 3) := by decide +kernel
theorem dX5_goesBy_187 : decode cX5_goesBy 187 = .ok (.iconst 0, 1) := by decide +kernel
theorem dX5_goesBy_188 : decode cX5_goesBy 188 = .ok (.istore_n 2, 1) := by decide +kernel
theorem dX5_goesBy_189 : decode cX5_goesBy 189 = .ok (.iload_n 2, 1) := by decide +kernel
theorem dX5_goesBy_190 : decode cX5_goesBy 190 = .ok (.aload_n 0, 1) := by decide +kernel
theorem dX5_goesBy_191 : decode cX5_goesBy 191 = .ok (.getfield 7, 3) := by decide +kernel
theorem dX5_goesBy_194 : decode cX5_goesBy 194 = .ok (.iconst 0, 1) := by decide +kernel
theorem dX5_goesBy_195 : decode cX5_goesBy 195 = .ok (.iaload, 1) := by decide +kernel
theorem dX5_goesBy_196 : decode cX5_goesBy 196 = .ok (.if_icmp .ge 94, 3) := by decide +kernel
theorem dX5_goesBy_199 : decode cX5_goesBy 199 = .ok (.iconst 0, 1) := by decide +kernel
theorem dX5_goesBy_200 : decode cX5_goesBy 200 = .ok (.istore_n 3, 1) := by decide +kernel
theorem dX5_goesBy_201 : decode cX5_goesBy 201 = .ok (.iload_n 3, 1) := by decide +kernel
theorem dX5_goesBy_202 : decode cX5_goesBy 202 = .ok (.bipush 8, 2) := by decide +kernel
theorem dX5_goesBy_204 : decode cX5_goesBy 204 = .ok (.if_icmp .ge 80, 3) := by decide +kernel
theorem dX5_goesBy_207 : decode cX5_goesBy 207 = .ok (.aload_n 0, 1) := by decide +kernel
theorem dX5_goesBy_208 : decode cX5_goesBy 208 = .ok (.getfield 19, 3) := by decide +kernel
theorem dX5_goesBy_211 : decode cX5_goesBy 211 = .ok (.iload_n 3, 1) := by decide +kernel
theorem dX5_goesBy_212 : decode cX5_goesBy 212 = .ok (.iaload, 1) := by decide +kernel
theorem dX5_goesBy_213 : decode cX5_goesBy 213 = .ok (.iload_n 2, 1) := by decide +kernel
theorem dX5_goesBy_214 : decode cX5_goesBy 214 = .ok (.ishr, 1) := by decide +kernel
theorem dX5_goesBy_215 : decode cX5_goesBy 215 = .ok (.iconst 1, 1) := by decide +kernel
theorem dX5_goesBy_216 : decode cX5_goesBy 216 = .ok (.iand, 1) := by decide +kernel
theorem dX5_goesBy_217 : decode cX5_goesBy 217 = .ok (.iconst 1, 1) := by decide +kernel
theorem dX5_goesBy_218 : decode cX5_goesBy 218 = .ok (.if_icmp .ne 28, 3) := by decide +kernel
theorem dX5_goesBy_221 : decode cX5_goesBy 221 = .ok (.aload_n 0, 1) := by decide +kernel
theorem dX5_goesBy_222 : decode cX5_goesBy 222 = .ok (.iload_n 2, 1) := by decide +kernel
theorem dX5_goesBy_223 : decode cX5_goesBy 223 = .ok (.iload_n 3, 1) := by decide +kernel
theorem dX5_goesBy_224 : decode cX5_goesBy 224 = .ok (.invokevirtual 56, 3) := by decide +kernel
theorem dX5_goesBy_227 : decode cX5_goesBy 227 = .ok (.ifCond .ne 19, 3) := by decide +kernel
theorem dX5_goesBy_230 : decode cX5_goesBy 230 = .ok (.aload_n 0, 1) := by decide +kernel
theorem dX5_goesBy_231 : decode cX5_goesBy 231 = .ok (.getfield 7, 3) := by decide +kernel
theorem dX5_goesBy_234 : decode cX5_goesBy 234 = .ok (.iconst 5, 1) := by decide +kernel
theorem dX5_goesBy_235 : decode cX5_goesBy 235 = .ok (.iload_n 2, 1) := by decide +kernel
theorem dX5_goesBy_236 : decode cX5_goesBy 236 = .ok (.iadd, 1) := by decide +kernel
theorem dX5_goesBy_237 : decode cX5_goesBy 237 = .ok (.iaload, 1) := by decide +kernel
theorem dX5_goesBy_238 : decode cX5_goesBy 238 = .ok (.iconst 4, 1) := by decide +kernel
theorem dX5_goesBy_239 : decode cX5_goesBy 239 = .ok (.if_icmp .eq 7, 3) := by decide +kernel
theorem dX5_goesBy_242 : decode cX5_goesBy 242 = .ok (.iconst 1, 1) := by decide +kernel
theorem dX5_goesBy_243 : decode cX5_goesBy 243 = .ok (.goto 4, 3) := by decide +kernel
theorem dX5_goesBy_246 : decode cX5_goesBy 246 = .ok (.iconst 0, 1) := by decide +kernel
theorem dX5_goesBy_247 : decode cX5_goesBy 247 = .ok (.istore 4, 2) := by decide +kernel
theorem dX5_goesBy_249 : decode cX5_goesBy 249 = .ok (.aload_n 0, 1) := by decide +kernel
theorem dX5_goesBy_250 : decode cX5_goesBy 250 = .ok (.getfield 7, 3) := by decide +kernel
theorem dX5_goesBy_253 : decode cX5_goesBy 253 = .ok (.bipush 17, 2) := by decide +kernel
theorem dX5_goesBy_255 : decode cX5_goesBy 255 = .ok (.bipush 8, 2) := by decide +kernel
theorem dX5_goesBy_257 : decode cX5_goesBy 257 = .ok (.iload_n 2, 1) := by decide +kernel
theorem dX5_goesBy_258 : decode cX5_goesBy 258 = .ok (.imul, 1) := by decide +kernel
theorem dX5_goesBy_259 : decode cX5_goesBy 259 = .ok (.iadd, 1) := by decide +kernel
theorem dX5_goesBy_260 : decode cX5_goesBy 260 = .ok (.iload_n 3, 1) := by decide +kernel
theorem dX5_goesBy_261 : decode cX5_goesBy 261 = .ok (.iadd, 1) := by decide +kernel
theorem dX5_goesBy_262 : decode cX5_goesBy 262 = .ok (.iload 4, 2) := by decide +kernel
theorem dX5_goesBy_264 : decode cX5_goesBy 264 = .ok (.ifCond .eq 7, 3) := by decide +kernel
theorem dX5_goesBy_267 : decode cX5_goesBy 267 = .ok (.iconst 0, 1) := by decide +kernel
theorem dX5_goesBy_268 : decode cX5_goesBy 268 = .ok (.goto 9, 3) := by decide +kernel
theorem dX5_goesBy_271 : decode cX5_goesBy 271 = .ok (.aload_n 0, 1) := by decide +kernel
theorem dX5_goesBy_272 : decode cX5_goesBy 272 = .ok (.iload_n 2, 1) := by decide +kernel
theorem dX5_goesBy_273 : decode cX5_goesBy 273 = .ok (.iload_n 3, 1) := by decide +kernel
theorem dX5_goesBy_274 : decode cX5_goesBy 274 = .ok (.invokevirtual 52, 3) := by decide +kernel
theorem dX5_goesBy_277 : decode cX5_goesBy 277 = .ok (.iastore, 1) := by decide +kernel
theorem dX5_goesBy_278 : decode cX5_goesBy 278 = .ok (.iinc 3 1, 3) := by decide +kernel
theorem dX5_goesBy_281 : decode cX5_goesBy 281 = .ok (.goto (-80), 3) := by decide +kernel
theorem dX5_goesBy_284 : decode cX5_goesBy 284 = .ok (.iinc 2 1, 3) := by decide +kernel
theorem dX5_goesBy_287 : decode cX5_goesBy 287 = .ok (.goto (-98), 3) := by decide +kernel
theorem dX5_goesBy_290 : decode cX5_goesBy 290 = .ok (.aload_n 0, 1) := by decide +kernel
theorem dX5_goesBy_291 : decode cX5_goesBy 291 = .ok (.getfield 7, 3) := by decide +kernel
theorem dX5_goesBy_294 : decode cX5_goesBy 294 = .ok (.iconst 1, 1) := by decide +kernel
theorem dX5_goesBy_295 : decode cX5_goesBy 295 = .ok (.dup2, 1) := by decide +kernel
theorem dX5_goesBy_296 : decode cX5_goesBy 296 = .ok (.iaload, 1) := by decide +kernel
theorem dX5_goesBy_297 : decode cX5_goesBy 297 = .ok (.iconst 1, 1) := by decide +kernel
theorem dX5_goesBy_298 : decode cX5_goesBy 298 = .ok (.iadd, 1) := by decide +kernel
theorem dX5_goesBy_299 : decode cX5_goesBy 299 = .ok (.iastore, 1) := by decide +kernel
theorem dX5_goesBy_300 : decode cX5_goesBy 300 = .ok (.aload_n 0, 1) := by decide +kernel
theorem dX5_goesBy_301 : decode cX5_goesBy 301 = .ok (.getfield 7, 3) := by decide +kernel
theorem dX5_goesBy_304 : decode cX5_goesBy 304 = .ok (.iconst 1, 1) := by decide +kernel
theorem dX5_goesBy_305 : decode cX5_goesBy 305 = .ok (.iaload, 1) := by decide +kernel
theorem dX5_goesBy_306 : decode cX5_goesBy 306 = .ok (.aload_n 0, 1) := by decide +kernel
theorem dX5_goesBy_307 : decode cX5_goesBy 307 = .ok (.getfield 7, 3) := by decide +kernel
theorem dX5_goesBy_310 : decode cX5_goesBy 310 = .ok (.iconst 3, 1) := by decide +kernel
theorem dX5_goesBy_311 : decode cX5_goesBy 311 = .ok (.iaload, 1) := by decide +kernel
theorem dX5_goesBy_312 : decode cX5_goesBy 312 = .ok (.irem, 1) := by decide +kernel
theorem dX5_goesBy_313 : decode cX5_goesBy 313 = .ok (.ifCond .ne 13, 3) := by decide +kernel
theorem dX5_goesBy_316 : decode cX5_goesBy 316 = .ok (.aload_n 0, 1) := by decide +kernel
theorem dX5_goesBy_317 : decode cX5_goesBy 317 = .ok (.aload_n 0, 1) := by decide +kernel
theorem dX5_goesBy_318 : decode cX5_goesBy 318 = .ok (.getfield 7, 3) := by decide +kernel
theorem dX5_goesBy_321 : decode cX5_goesBy 321 = .ok (.iconst 2, 1) := by decide +kernel
theorem dX5_goesBy_322 : decode cX5_goesBy 322 = .ok (.iaload, 1) := by decide +kernel
theorem dX5_goesBy_323 : decode cX5_goesBy 323 = .ok (.invokevirtual 151, 3) := by decide +kernel
theorem dX5_goesBy_326 : decode cX5_goesBy 326 = .ok (.return_, 1) := by decide +kernel
theorem dX5_renews_0 : decode cX5_renews 0 = .ok (.bipush 17, 2) := by decide +kernel
theorem dX5_renews_2 : decode cX5_renews 2 = .ok (.istore_n 2, 1) := by decide +kernel
theorem dX5_renews_3 : decode cX5_renews 3 = .ok (.iload_n 2, 1) := by decide +kernel
theorem dX5_renews_4 : decode cX5_renews 4 = .ok (.bipush 17, 2) := by decide +kernel
theorem dX5_renews_6 : decode cX5_renews 6 = .ok (.bipush 8, 2) := by decide +kernel
theorem dX5_renews_8 : decode cX5_renews 8 = .ok (.aload_n 0, 1) := by decide +kernel
theorem dX5_renews_9 : decode cX5_renews 9 = .ok (.getfield 7, 3) := by decide +kernel
theorem dX5_renews_12 : decode cX5_renews 12 = .ok (.iconst 0, 1) := by decide +kernel
theorem dX5_renews_13 : decode cX5_renews 13 = .ok (.iaload, 1) := by decide +kernel
theorem dX5_renews_14 : decode cX5_renews 14 = .ok (.imul, 1) := by decide +kernel
theorem dX5_renews_15 : decode cX5_renews 15 = .ok (.iadd, 1) := by decide +kernel
theorem dX5_renews_16 : decode cX5_renews 16 = .ok (.if_icmp .ge 29, 3) := by decide +kernel
theorem dX5_renews_19 : decode cX5_renews 19 = .ok (.aload_n 0, 1) := by decide +kernel
theorem dX5_renews_20 : decode cX5_renews 20 = .ok (.getfield 7, 3) := by decide +kernel
theorem dX5_renews_23 : decode cX5_renews 23 = .ok (.iload_n 2, 1) := by decide +kernel
theorem dX5_renews_24 : decode cX5_renews 24 = .ok (.aload_n 0, 1) := by decide +kernel
theorem dX5_renews_25 : decode cX5_renews 25 = .ok (.getfield 7, 3) := by decide +kernel
theorem dX5_renews_28 : decode cX5_renews 28 = .ok (.iload_n 2, 1) := by decide +kernel
theorem dX5_renews_29 : decode cX5_renews 29 = .ok (.iaload, 1) := by decide +kernel
theorem dX5_renews_30 : decode cX5_renews 30 = .ok (.ifCond .ge 7, 3) := by decide +kernel
theorem dX5_renews_33 : decode cX5_renews 33 = .ok (.iconst (-1), 1) := by decide +kernel
theorem dX5_renews_34 : decode cX5_renews 34 = .ok (.goto 4, 3) := by decide +kernel
theorem dX5_renews_37 : decode cX5_renews 37 = .ok (.iload_n 1, 1) := by decide +kernel
theorem dX5_renews_38 : decode cX5_renews 38 = .ok (.iastore, 1) := by decide +kernel
theorem dX5_renews_39 : decode cX5_renews 39 = .ok (.iinc 2 1, 3) := by decide +kernel
theorem dX5_renews_42 : decode cX5_renews 42 = .ok (.goto (-39), 3) := by decide +kernel
theorem dX5_renews_45 : decode cX5_renews 45 = .ok (.return_, 1) := by decide +kernel
set_option maxRecDepth 20000 in
theorem ggX5_goesOn_X5_goesBy : GoodIn wsX5_goesOn wsX5_goesBy := goodIn_r _ [5, 6, 7, 8, 9, 10, 4, 11, 12, 13, 14, 15, 16, 17, 18, 19, 20, 21, 22, 23, 24, 25, 26, 27, 28, 29, 30, 31, 32, 33, 34, 35, 36, 37, 38, 39, 40, 41, 42, 43, 44, 45, 46, 47, 48, 49, 50, 51, 52] (by decide +kernel) (by decide +kernel)
set_option maxRecDepth 20000 in
theorem gX5_goesOn_X5_goesBy : GoodIn wsX5_goesOn (wsV RX5 154 RX5 yX5_goesBy wsX5_goesBy) := goodIn_app (goodIn_of _ (by decide +kernel)) ggX5_goesOn_X5_goesBy
theorem dX5_goesOn_0 : decode cX5_goesOn 0 = .ok (.iconst 0, 1) := by decide +kernel
theorem dX5_goesOn_1 : decode cX5_goesOn 1 = .ok (.istore_n 3, 1) := by decide +kernel
theorem dX5_goesOn_2 : decode cX5_goesOn 2 = .ok (.iload_n 3, 1) := by decide +kernel
theorem dX5_goesOn_3 : decode cX5_goesOn 3 = .ok (.iload_n 1, 1) := by decide +kernel
theorem dX5_goesOn_4 : decode cX5_goesOn 4 = .ok (.if_icmp .ge 14, 3) := by decide +kernel
theorem dX5_goesOn_7 : decode cX5_goesOn 7 = .ok (.aload_n 0, 1) := by decide +kernel
theorem dX5_goesOn_8 : decode cX5_goesOn 8 = .ok (.iload_n 2, 1) := by decide +kernel
theorem dX5_goesOn_9 : decode cX5_goesOn 9 = .ok (.invokevirtual 154, 3) := by decide +kernel
theorem dX5_goesOn_12 : decode cX5_goesOn 12 = .ok (.iinc 3 1, 3) := by decide +kernel
theorem dX5_goesOn_15 : decode cX5_goesOn 15 = .ok (.goto (-13), 3) := by decide +kernel
theorem dX5_goesOn_18 : decode cX5_goesOn 18 = .ok (.return_, 1) := by decide +kernel
theorem dX5_notes_0 : decode cX5_notes 0 = .ok (.aload_n 0, 1) := by decide +kernel
theorem dX5_notes_1 : decode cX5_notes 1 = .ok (.getfield 77, 3) := by decide +kernel
theorem dX5_notes_4 : decode cX5_notes 4 = .ok (.bipush 8, 2) := by decide +kernel
theorem dX5_notes_6 : decode cX5_notes 6 = .ok (.if_icmp .ne 40, 3) := by decide +kernel
theorem dX5_notes_9 : decode cX5_notes 9 = .ok (.bipush 50, 2) := by decide +kernel
theorem dX5_notes_11 : decode cX5_notes 11 = .ok (.istore_n 1, 1) := by decide +kernel
theorem dX5_notes_12 : decode cX5_notes 12 = .ok (.iload_n 1, 1) := by decide +kernel
theorem dX5_notes_13 : decode cX5_notes 13 = .ok (.sipush 400, 3) := by decide +kernel
theorem dX5_notes_16 : decode cX5_notes 16 = .ok (.if_icmp .ge 24, 3) := by decide +kernel
theorem dX5_notes_19 : decode cX5_notes 19 = .ok (.aload_n 0, 1) := by decide +kernel
theorem dX5_notes_20 : decode cX5_notes 20 = .ok (.getfield 22, 3) := by decide +kernel
theorem dX5_notes_23 : decode cX5_notes 23 = .ok (.iload_n 1, 1) := by decide +kernel
theorem dX5_notes_24 : decode cX5_notes 24 = .ok (.bipush 50, 2) := by decide +kernel
theorem dX5_notes_26 : decode cX5_notes 26 = .ok (.isub, 1) := by decide +kernel
theorem dX5_notes_27 : decode cX5_notes 27 = .ok (.aload_n 0, 1) := by decide +kernel
theorem dX5_notes_28 : decode cX5_notes 28 = .ok (.getfield 22, 3) := by decide +kernel
theorem dX5_notes_31 : decode cX5_notes 31 = .ok (.iload_n 1, 1) := by decide +kernel
theorem dX5_notes_32 : decode cX5_notes 32 = .ok (.iaload, 1) := by decide +kernel
theorem dX5_notes_33 : decode cX5_notes 33 = .ok (.iastore, 1) := by decide +kernel
theorem dX5_notes_34 : decode cX5_notes 34 = .ok (.iinc 1 1, 3) := by decide +kernel
theorem dX5_notes_37 : decode cX5_notes 37 = .ok (.goto (-25), 3) := by decide +kernel
theorem dX5_notes_40 : decode cX5_notes 40 = .ok (.aload_n 0, 1) := by decide +kernel
theorem dX5_notes_41 : decode cX5_notes 41 = .ok (.bipush 7, 2) := by decide +kernel
theorem dX5_notes_43 : decode cX5_notes 43 = .ok (.putfield 77, 3) := by decide +kernel
theorem dX5_notes_46 : decode cX5_notes 46 = .ok (.iconst 0, 1) := by decide +kernel
theorem dX5_notes_47 : decode cX5_notes 47 = .ok (.istore_n 1, 1) := by decide +kernel
theorem dX5_notes_48 : decode cX5_notes 48 = .ok (.iload_n 1, 1) := by decide +kernel
theorem dX5_notes_49 : decode cX5_notes 49 = .ok (.bipush 48, 2) := by decide +kernel
theorem dX5_notes_51 : decode cX5_notes 51 = .ok (.if_icmp .ge 32, 3) := by decide +kernel
theorem dX5_notes_54 : decode cX5_notes 54 = .ok (.aload_n 0, 1) := by decide +kernel
theorem dX5_notes_55 : decode cX5_notes 55 = .ok (.getfield 22, 3) := by decide +kernel
theorem dX5_notes_58 : decode cX5_notes 58 = .ok (.bipush 50, 2) := by decide +kernel
theorem dX5_notes_60 : decode cX5_notes 60 = .ok (.aload_n 0, 1) := by decide +kernel
theorem dX5_notes_61 : decode cX5_notes 61 = .ok (.getfield 77, 3) := by decide +kernel
theorem dX5_notes_64 : decode cX5_notes 64 = .ok (.imul, 1) := by decide +kernel
theorem dX5_notes_65 : decode cX5_notes 65 = .ok (.iload_n 1, 1) := by decide +kernel
theorem dX5_notes_66 : decode cX5_notes 66 = .ok (.iadd, 1) := by decide +kernel
theorem dX5_notes_67 : decode cX5_notes 67 = .ok (.aload_n 0, 1) := by decide +kernel
theorem dX5_notes_68 : decode cX5_notes 68 = .ok (.getfield 7, 3) := by decide +kernel
theorem dX5_notes_71 : decode cX5_notes 71 = .ok (.bipush 17, 2) := by decide +kernel
theorem dX5_notes_73 : decode cX5_notes 73 = .ok (.iload_n 1, 1) := by decide +kernel
theorem dX5_notes_74 : decode cX5_notes 74 = .ok (.iadd, 1) := by decide +kernel
theorem dX5_notes_75 : decode cX5_notes 75 = .ok (.iaload, 1) := by decide +kernel
theorem dX5_notes_76 : decode cX5_notes 76 = .ok (.iastore, 1) := by decide +kernel
theorem dX5_notes_77 : decode cX5_notes 77 = .ok (.iinc 1 1, 3) := by decide +kernel
theorem dX5_notes_80 : decode cX5_notes 80 = .ok (.goto (-32), 3) := by decide +kernel
theorem dX5_notes_83 : decode cX5_notes 83 = .ok (.aload_n 0, 1) := by decide +kernel
theorem dX5_notes_84 : decode cX5_notes 84 = .ok (.getfield 22, 3) := by decide +kernel
theorem dX5_notes_87 : decode cX5_notes 87 = .ok (.bipush 50, 2) := by decide +kernel
theorem dX5_notes_89 : decode cX5_notes 89 = .ok (.aload_n 0, 1) := by decide +kernel
theorem dX5_notes_90 : decode cX5_notes 90 = .ok (.getfield 77, 3) := by decide +kernel
theorem dX5_notes_93 : decode cX5_notes 93 = .ok (.imul, 1) := by decide +kernel
theorem dX5_notes_94 : decode cX5_notes 94 = .ok (.bipush 48, 2) := by decide +kernel
theorem dX5_notes_96 : decode cX5_notes 96 = .ok (.iadd, 1) := by decide +kernel
theorem dX5_notes_97 : decode cX5_notes 97 = .ok (.aload_n 0, 1) := by decide +kernel
theorem dX5_notes_98 : decode cX5_notes 98 = .ok (.getfield 7, 3) := by decide +kernel
theorem dX5_notes_101 : decode cX5_notes 101 = .ok (.iconst 1, 1) := by decide +kernel
theorem dX5_notes_102 : decode cX5_notes 102 = .ok (.iaload, 1) := by decide +kernel
theorem dX5_notes_103 : decode cX5_notes 103 = .ok (.iastore, 1) := by decide +kernel
theorem dX5_notes_104 : decode cX5_notes 104 = .ok (.aload_n 0, 1) := by decide +kernel
theorem dX5_notes_105 : decode cX5_notes 105 = .ok (.getfield 22, 3) := by decide +kernel
theorem dX5_notes_108 : decode cX5_notes 108 = .ok (.bipush 50, 2) := by decide +kernel
theorem dX5_notes_110 : decode cX5_notes 110 = .ok (.aload_n 0, 1) := by decide +kernel
theorem dX5_notes_111 : decode cX5_notes 111 = .ok (.getfield 77, 3) := by decide +kernel
theorem dX5_notes_114 : decode cX5_notes 114 = .ok (.imul, 1) := by decide +kernel
theorem dX5_notes_115 : decode cX5_notes 115 = .ok (.bipush 49, 2) := by decide +kernel
theorem dX5_notes_117 : decode cX5_notes 117 = .ok (.iadd, 1) := by decide +kernel
theorem dX5_notes_118 : decode cX5_notes 118 = .ok (.aload_n 0, 1) := by decide +kernel
theorem dX5_notes_119 : decode cX5_notes 119 = .ok (.getfield 7, 3) := by decide +kernel
theorem dX5_notes_122 : decode cX5_notes 122 = .ok (.iconst 4, 1) := by decide +kernel
theorem dX5_notes_123 : decode cX5_notes 123 = .ok (.iaload, 1) := by decide +kernel
theorem dX5_notes_124 : decode cX5_notes 124 = .ok (.iastore, 1) := by decide +kernel
theorem dX5_notes_125 : decode cX5_notes 125 = .ok (.aload_n 0, 1) := by decide +kernel
theorem dX5_notes_126 : decode cX5_notes 126 = .ok (.dup, 1) := by decide +kernel
theorem dX5_notes_127 : decode cX5_notes 127 = .ok (.getfield 77, 3) := by decide +kernel
theorem dX5_notes_130 : decode cX5_notes 130 = .ok (.iconst 1, 1) := by decide +kernel
theorem dX5_notes_131 : decode cX5_notes 131 = .ok (.iadd, 1) := by decide +kernel
theorem dX5_notes_132 : decode cX5_notes 132 = .ok (.putfield 77, 3) := by decide +kernel
theorem dX5_notes_135 : decode cX5_notes 135 = .ok (.return_, 1) := by decide +kernel
set_option maxRecDepth 20000 in
theorem ggX5_trust_X5_isPerson : GoodIn wsX5_trust wsX5_isPerson := goodIn_r _ [6, 1, 7, 8, 5, 9, 32, 33, 34, 35, 36, 37, 38, 39, 40, 41, 42, 43, 44, 45, 46, 47, 48] (by decide +kernel) (by decide +kernel)
set_option maxRecDepth 20000 in
theorem gX5_trust_X5_isPerson : GoodIn wsX5_trust (wsV RX5 81 RX5 yX5_isPerson wsX5_isPerson) := goodIn_app (goodIn_of _ (by decide +kernel)) ggX5_trust_X5_isPerson
set_option maxRecDepth 20000 in
theorem ggX5_trust_X5_isThing : GoodIn wsX5_trust wsX5_isThing := goodIn_r _ [12, 13, 7, 8, 5, 9] (by decide +kernel) (by decide +kernel)
set_option maxRecDepth 20000 in
theorem gX5_trust_X5_isThing : GoodIn wsX5_trust (va_wsS RX5 96 yX5_isThing wsX5_isThing) := goodIn_app (goodIn_of _ (by decide +kernel)) ggX5_trust_X5_isThing
set_option maxRecDepth 20000 in
theorem ggX5_trust_X5_knows : GoodIn wsX5_trust wsX5_knows := goodIn_r _ [17, 18, 19, 20, 5, 21, 1, 32, 33, 34, 35, 36, 37, 38, 39, 40, 41, 42, 43, 44, 45, 46, 47, 48] (by decide +kernel) (by decide +kernel)
set_option maxRecDepth 20000 in
theorem gX5_trust_X5_knows : GoodIn wsX5_trust (wsV RX5 56 RX5 yX5_knows wsX5_knows) := goodIn_app (goodIn_of _ (by decide +kernel)) ggX5_trust_X5_knows
set_option maxRecDepth 20000 in
theorem ggX5_trust_X5_notes : GoodIn wsX5_trust wsX5_notes := goodIn_r _ [25, 26, 27, 1, 32, 33, 34, 35, 36, 37, 38, 39, 40, 41, 42, 43, 44, 45, 46, 47, 48] (by decide +kernel) (by decide +kernel)
set_option maxRecDepth 20000 in
theorem gX5_trust_X5_notes : GoodIn wsX5_trust (wsV RX5 157 RX5 yX5_notes wsX5_notes) := goodIn_app (goodIn_of _ (by decide +kernel)) ggX5_trust_X5_notes
set_option maxRecDepth 20000 in
theorem ggX5_trust_X5_rank : GoodIn wsX5_trust wsX5_rank := goodIn_r _ [31, 18, 19, 20, 5, 21, 1, 32, 33, 34, 35, 36, 37, 38, 39, 40, 41, 42, 43, 44, 45, 46, 47, 48] (by decide +kernel) (by decide +kernel)
set_option maxRecDepth 20000 in
theorem gX5_trust_X5_rank : GoodIn wsX5_trust (wsV RX5 90 RX5 yX5_rank wsX5_rank) := goodIn_app (goodIn_of _ (by decide +kernel)) ggX5_trust_X5_rank
theorem dX5_trust_0 : decode cX5_trust 0 = .ok (.aload_n 0, 1) := by decide +kernel
theorem dX5_trust_1 : decode cX5_trust 1 = .ok (.iload_n 1, 1) := by decide +kernel
theorem dX5_trust_2 : decode cX5_trust 2 = .ok (.invokevirtual 81, 3) := by decide +kernel
theorem dX5_trust_5 : decode cX5_trust 5 = .ok (.ifCond .eq 10, 3) := by decide +kernel
theorem dX5_trust_8 : decode cX5_trust 8 = .ok (.iload_n 2, 1) := by decide +kernel
theorem dX5_trust_9 : decode cX5_trust 9 = .ok (.invokestatic 96, 3) := by decide +kernel
theorem dX5_trust_12 : decode cX5_trust 12 = .ok (.ifCond .ne 5, 3) := by decide +kernel
theorem dX5_trust_15 : decode cX5_trust 15 = .ok (.iconst (-1), 1) := by decide +kernel
theorem dX5_trust_16 : decode cX5_trust 16 = .ok (.ireturn, 1) := by decide +kernel
theorem dX5_trust_17 : decode cX5_trust 17 = .ok (.aload_n 0, 1) := by decide +kernel
theorem dX5_trust_18 : decode cX5_trust 18 = .ok (.iload_n 1, 1) := by decide +kernel
theorem dX5_trust_19 : decode cX5_trust 19 = .ok (.iload_n 2, 1) := by decide +kernel
theorem dX5_trust_20 : decode cX5_trust 20 = .ok (.invokevirtual 56, 3) := by decide +kernel
theorem dX5_trust_23 : decode cX5_trust 23 = .ok (.ifCond .eq 6, 3) := by decide +kernel
theorem dX5_trust_26 : decode cX5_trust 26 = .ok (.bipush (-2), 2) := by decide +kernel
theorem dX5_trust_28 : decode cX5_trust 28 = .ok (.ireturn, 1) := by decide +kernel
theorem dX5_trust_29 : decode cX5_trust 29 = .ok (.aload_n 0, 1) := by decide +kernel
theorem dX5_trust_30 : decode cX5_trust 30 = .ok (.invokevirtual 157, 3) := by decide +kernel
theorem dX5_trust_33 : decode cX5_trust 33 = .ok (.aload_n 0, 1) := by decide +kernel
theorem dX5_trust_34 : decode cX5_trust 34 = .ok (.getfield 7, 3) := by decide +kernel
theorem dX5_trust_37 : decode cX5_trust 37 = .ok (.bipush 17, 2) := by decide +kernel
theorem dX5_trust_39 : decode cX5_trust 39 = .ok (.bipush 8, 2) := by decide +kernel
theorem dX5_trust_41 : decode cX5_trust 41 = .ok (.iload_n 1, 1) := by decide +kernel
theorem dX5_trust_42 : decode cX5_trust 42 = .ok (.imul, 1) := by decide +kernel
theorem dX5_trust_43 : decode cX5_trust 43 = .ok (.iadd, 1) := by decide +kernel
theorem dX5_trust_44 : decode cX5_trust 44 = .ok (.iload_n 2, 1) := by decide +kernel
theorem dX5_trust_45 : decode cX5_trust 45 = .ok (.iadd, 1) := by decide +kernel
theorem dX5_trust_46 : decode cX5_trust 46 = .ok (.aload_n 0, 1) := by decide +kernel
theorem dX5_trust_47 : decode cX5_trust 47 = .ok (.getfield 7, 3) := by decide +kernel
theorem dX5_trust_50 : decode cX5_trust 50 = .ok (.iconst 2, 1) := by decide +kernel
theorem dX5_trust_51 : decode cX5_trust 51 = .ok (.iaload, 1) := by decide +kernel
theorem dX5_trust_52 : decode cX5_trust 52 = .ok (.iastore, 1) := by decide +kernel
theorem dX5_trust_53 : decode cX5_trust 53 = .ok (.aload_n 0, 1) := by decide +kernel
theorem dX5_trust_54 : decode cX5_trust 54 = .ok (.iload_n 1, 1) := by decide +kernel
theorem dX5_trust_55 : decode cX5_trust 55 = .ok (.invokevirtual 90, 3) := by decide +kernel
theorem dX5_trust_58 : decode cX5_trust 58 = .ok (.ireturn, 1) := by decide +kernel
set_option maxRecDepth 20000 in
theorem ggX5_seal_X5_isPerson : GoodIn wsX5_seal wsX5_isPerson := goodIn_r _ [6, 1, 7, 8, 5, 9, 28, 29, 30, 31, 32, 33, 34, 35, 36, 37, 38, 39, 40, 41, 42, 43, 44] (by decide +kernel) (by decide +kernel)
set_option maxRecDepth 20000 in
theorem gX5_seal_X5_isPerson : GoodIn wsX5_seal (wsV RX5 81 RX5 yX5_isPerson wsX5_isPerson) := goodIn_app (goodIn_of _ (by decide +kernel)) ggX5_seal_X5_isPerson
set_option maxRecDepth 20000 in
theorem ggX5_seal_X5_isThing : GoodIn wsX5_seal wsX5_isThing := goodIn_r _ [12, 13, 7, 8, 5, 9] (by decide +kernel) (by decide +kernel)
set_option maxRecDepth 20000 in
theorem gX5_seal_X5_isThing : GoodIn wsX5_seal (va_wsS RX5 96 yX5_isThing wsX5_isThing) := goodIn_app (goodIn_of _ (by decide +kernel)) ggX5_seal_X5_isThing
set_option maxRecDepth 20000 in
theorem ggX5_seal_X5_knows : GoodIn wsX5_seal wsX5_knows := goodIn_r _ [17, 18, 19, 20, 5, 21, 1, 28, 29, 30, 31, 32, 33, 34, 35, 36, 37, 38, 39, 40, 41, 42, 43, 44] (by decide +kernel) (by decide +kernel)
set_option maxRecDepth 20000 in
theorem gX5_seal_X5_knows : GoodIn wsX5_seal (wsV RX5 56 RX5 yX5_knows wsX5_knows) := goodIn_app (goodIn_of _ (by decide +kernel)) ggX5_seal_X5_knows
set_option maxRecDepth 20000 in
theorem ggX5_seal_X5_notes : GoodIn wsX5_seal wsX5_notes := goodIn_r _ [25, 26, 27, 1, 28, 29, 30, 31, 32, 33, 34, 35, 36, 37, 38, 39, 40, 41, 42, 43, 44] (by decide +kernel) (by decide +kernel)
set_option maxRecDepth 20000 in
theorem gX5_seal_X5_notes : GoodIn wsX5_seal (wsV RX5 157 RX5 yX5_notes wsX5_notes) := goodIn_app (goodIn_of _ (by decide +kernel)) ggX5_seal_X5_notes
set_option maxRecDepth 20000 in
theorem ggX5_seal_X5_sealOf : GoodIn wsX5_seal wsX5_sealOf := goodIn_r _ [21, 1, 28, 29, 30, 31, 32, 33, 34, 35, 36, 37, 38, 39, 40, 41, 42, 43, 44] (by decide +kernel) (by decide +kernel)
set_option maxRecDepth 20000 in
theorem gX5_seal_X5_sealOf : GoodIn wsX5_seal (wsV RX5 52 RX5 yX5_sealOf wsX5_sealOf) := goodIn_app (goodIn_of _ (by decide +kernel)) ggX5_seal_X5_sealOf
theorem dX5_seal_0 : decode cX5_seal 0 = .ok (.aload_n 0, 1) := by decide +kernel
theorem dX5_seal_1 : decode cX5_seal 1 = .ok (.iload_n 1, 1) := by decide +kernel
theorem dX5_seal_2 : decode cX5_seal 2 = .ok (.invokevirtual 81, 3) := by decide +kernel
theorem dX5_seal_5 : decode cX5_seal 5 = .ok (.ifCond .eq 10, 3) := by decide +kernel
theorem dX5_seal_8 : decode cX5_seal 8 = .ok (.iload_n 2, 1) := by decide +kernel
theorem dX5_seal_9 : decode cX5_seal 9 = .ok (.invokestatic 96, 3) := by decide +kernel
theorem dX5_seal_12 : decode cX5_seal 12 = .ok (.ifCond .ne 5, 3) := by decide +kernel
theorem dX5_seal_15 : decode cX5_seal 15 = .ok (.iconst (-1), 1) := by decide +kernel
theorem dX5_seal_16 : decode cX5_seal 16 = .ok (.ireturn, 1) := by decide +kernel
theorem dX5_seal_17 : decode cX5_seal 17 = .ok (.aload_n 0, 1) := by decide +kernel
theorem dX5_seal_18 : decode cX5_seal 18 = .ok (.iload_n 1, 1) := by decide +kernel
theorem dX5_seal_19 : decode cX5_seal 19 = .ok (.iload_n 2, 1) := by decide +kernel
theorem dX5_seal_20 : decode cX5_seal 20 = .ok (.invokevirtual 56, 3) := by decide +kernel
theorem dX5_seal_23 : decode cX5_seal 23 = .ok (.ifCond .ne 6, 3) := by decide +kernel
theorem dX5_seal_26 : decode cX5_seal 26 = .ok (.bipush (-2), 2) := by decide +kernel
theorem dX5_seal_28 : decode cX5_seal 28 = .ok (.ireturn, 1) := by decide +kernel
theorem dX5_seal_29 : decode cX5_seal 29 = .ok (.aload_n 0, 1) := by decide +kernel
theorem dX5_seal_30 : decode cX5_seal 30 = .ok (.invokevirtual 157, 3) := by decide +kernel
theorem dX5_seal_33 : decode cX5_seal 33 = .ok (.aload_n 0, 1) := by decide +kernel
theorem dX5_seal_34 : decode cX5_seal 34 = .ok (.iload_n 1, 1) := by decide +kernel
theorem dX5_seal_35 : decode cX5_seal 35 = .ok (.iload_n 2, 1) := by decide +kernel
theorem dX5_seal_36 : decode cX5_seal 36 = .ok (.invokevirtual 52, 3) := by decide +kernel
theorem dX5_seal_39 : decode cX5_seal 39 = .ok (.istore_n 3, 1) := by decide +kernel
theorem dX5_seal_40 : decode cX5_seal 40 = .ok (.aload_n 0, 1) := by decide +kernel
theorem dX5_seal_41 : decode cX5_seal 41 = .ok (.getfield 7, 3) := by decide +kernel
theorem dX5_seal_44 : decode cX5_seal 44 = .ok (.bipush 17, 2) := by decide +kernel
theorem dX5_seal_46 : decode cX5_seal 46 = .ok (.bipush 8, 2) := by decide +kernel
theorem dX5_seal_48 : decode cX5_seal 48 = .ok (.iload_n 1, 1) := by decide +kernel
theorem dX5_seal_49 : decode cX5_seal 49 = .ok (.imul, 1) := by decide +kernel
theorem dX5_seal_50 : decode cX5_seal 50 = .ok (.iadd, 1) := by decide +kernel
theorem dX5_seal_51 : decode cX5_seal 51 = .ok (.iload_n 2, 1) := by decide +kernel
theorem dX5_seal_52 : decode cX5_seal 52 = .ok (.iadd, 1) := by decide +kernel
theorem dX5_seal_53 : decode cX5_seal 53 = .ok (.aload_n 0, 1) := by decide +kernel
theorem dX5_seal_54 : decode cX5_seal 54 = .ok (.getfield 7, 3) := by decide +kernel
theorem dX5_seal_57 : decode cX5_seal 57 = .ok (.iconst 2, 1) := by decide +kernel
theorem dX5_seal_58 : decode cX5_seal 58 = .ok (.iaload, 1) := by decide +kernel
theorem dX5_seal_59 : decode cX5_seal 59 = .ok (.iastore, 1) := by decide +kernel
theorem dX5_seal_60 : decode cX5_seal 60 = .ok (.iload_n 3, 1) := by decide +kernel
theorem dX5_seal_61 : decode cX5_seal 61 = .ok (.ireturn, 1) := by decide +kernel
set_option maxRecDepth 20000 in
theorem ggX5_days_X5_in : GoodIn wsX5_days wsX5_in := goodIn_r _ [6] (by decide +kernel) (by decide +kernel)
set_option maxRecDepth 20000 in
theorem gX5_days_X5_in : GoodIn wsX5_days (va_wsS RX5 44 yX5_in wsX5_in) := goodIn_app (goodIn_of _ (by decide +kernel)) ggX5_days_X5_in
set_option maxRecDepth 20000 in
theorem ggX5_days_X5_isHeat : GoodIn wsX5_days wsX5_isHeat := goodIn_r _ [9, 10, 3, 4, 5, 6] (by decide +kernel) (by decide +kernel)
set_option maxRecDepth 20000 in
theorem gX5_days_X5_isHeat : GoodIn wsX5_days (va_wsS RX5 162 yX5_isHeat wsX5_isHeat) := goodIn_app (goodIn_of _ (by decide +kernel)) ggX5_days_X5_isHeat
set_option maxRecDepth 20000 in
theorem ggX5_days_X5_notes : GoodIn wsX5_days wsX5_notes := goodIn_r _ [14, 15, 16, 2, 54, 55, 56, 57, 58, 59, 60, 61, 62, 63, 64, 65, 66, 67, 68, 69, 70] (by decide +kernel) (by decide +kernel)
set_option maxRecDepth 20000 in
theorem gX5_days_X5_notes : GoodIn wsX5_days (wsV RX5 157 RX5 yX5_notes wsX5_notes) := goodIn_app (goodIn_of _ (by decide +kernel)) ggX5_days_X5_notes
set_option maxRecDepth 20000 in
theorem ggX5_days_X5_goesBy : GoodIn wsX5_days wsX5_goesBy := goodIn_r _ [20, 2, 21, 22, 23, 24, 5, 25, 26, 27, 28, 29, 30, 31, 32, 33, 34, 35, 36, 37, 38, 39, 40, 41, 42, 43, 44, 45, 46, 47, 48, 49, 54, 55, 56, 57, 58, 59, 60, 61, 62, 63, 64, 65, 66, 67, 68, 69, 70] (by decide +kernel) (by decide +kernel)
set_option maxRecDepth 20000 in
theorem gX5_days_X5_goesBy : GoodIn wsX5_days (wsV RX5 154 RX5 yX5_goesBy wsX5_goesBy) := goodIn_app (goodIn_of _ (by decide +kernel)) ggX5_days_X5_goesBy
set_option maxRecDepth 20000 in
theorem ggX5_days_X5_times : GoodIn wsX5_days wsX5_times := goodIn_r _ [53, 2, 42, 43, 44, 5, 45, 26, 27, 28, 29, 54, 55, 56, 57, 58, 59, 60, 61, 62, 63, 64, 65, 66, 67, 68, 69, 70] (by decide +kernel) (by decide +kernel)
set_option maxRecDepth 20000 in
theorem gX5_days_X5_times : GoodIn wsX5_days (wsV RX5 103 RX5 yX5_times wsX5_times) := goodIn_app (goodIn_of _ (by decide +kernel)) ggX5_days_X5_times
theorem dX5_days_0 : decode cX5_days 0 = .ok (.iload_n 1, 1) := by decide +kernel
theorem dX5_days_1 : decode cX5_days 1 = .ok (.i2l, 1) := by decide +kernel
theorem dX5_days_2 : decode cX5_days 2 = .ok (.lconst 1, 1) := by decide +kernel
theorem dX5_days_3 : decode cX5_days 3 = .ok (.ldc2_w 160, 3) := by decide +kernel
theorem dX5_days_6 : decode cX5_days 6 = .ok (.invokestatic 44, 3) := by decide +kernel
theorem dX5_days_9 : decode cX5_days 9 = .ok (.ifCond .eq 10, 3) := by decide +kernel
theorem dX5_days_12 : decode cX5_days 12 = .ok (.iload_n 2, 1) := by decide +kernel
theorem dX5_days_13 : decode cX5_days 13 = .ok (.invokestatic 162, 3) := by decide +kernel
theorem dX5_days_16 : decode cX5_days 16 = .ok (.ifCond .ne 5, 3) := by decide +kernel
theorem dX5_days_19 : decode cX5_days 19 = .ok (.iconst (-1), 1) := by decide +kernel
theorem dX5_days_20 : decode cX5_days 20 = .ok (.ireturn, 1) := by decide +kernel
theorem dX5_days_21 : decode cX5_days 21 = .ok (.aload_n 0, 1) := by decide +kernel
theorem dX5_days_22 : decode cX5_days 22 = .ok (.getfield 7, 3) := by decide +kernel
theorem dX5_days_25 : decode cX5_days 25 = .ok (.iconst 1, 1) := by decide +kernel
theorem dX5_days_26 : decode cX5_days 26 = .ok (.iaload, 1) := by decide +kernel
theorem dX5_days_27 : decode cX5_days 27 = .ok (.iload_n 1, 1) := by decide +kernel
theorem dX5_days_28 : decode cX5_days 28 = .ok (.iadd, 1) := by decide +kernel
theorem dX5_days_29 : decode cX5_days 29 = .ok (.sipush 9999, 3) := by decide +kernel
theorem dX5_days_32 : decode cX5_days 32 = .ok (.if_icmp .le 6, 3) := by decide +kernel
theorem dX5_days_35 : decode cX5_days 35 = .ok (.bipush (-3), 2) := by decide +kernel
theorem dX5_days_37 : decode cX5_days 37 = .ok (.ireturn, 1) := by decide +kernel
theorem dX5_days_38 : decode cX5_days 38 = .ok (.iconst 0, 1) := by decide +kernel
theorem dX5_days_39 : decode cX5_days 39 = .ok (.istore_n 3, 1) := by decide +kernel
theorem dX5_days_40 : decode cX5_days 40 = .ok (.iload_n 3, 1) := by decide +kernel
theorem dX5_days_41 : decode cX5_days 41 = .ok (.iload_n 1, 1) := by decide +kernel
theorem dX5_days_42 : decode cX5_days 42 = .ok (.if_icmp .ge 18, 3) := by decide +kernel
theorem dX5_days_45 : decode cX5_days 45 = .ok (.aload_n 0, 1) := by decide +kernel
theorem dX5_days_46 : decode cX5_days 46 = .ok (.invokevirtual 157, 3) := by decide +kernel
theorem dX5_days_49 : decode cX5_days 49 = .ok (.aload_n 0, 1) := by decide +kernel
theorem dX5_days_50 : decode cX5_days 50 = .ok (.iload_n 2, 1) := by decide +kernel
theorem dX5_days_51 : decode cX5_days 51 = .ok (.invokevirtual 154, 3) := by decide +kernel
theorem dX5_days_54 : decode cX5_days 54 = .ok (.iinc 3 1, 3) := by decide +kernel
theorem dX5_days_57 : decode cX5_days 57 = .ok (.goto (-17), 3) := by decide +kernel
theorem dX5_days_60 : decode cX5_days 60 = .ok (.aload_n 0, 1) := by decide +kernel
theorem dX5_days_61 : decode cX5_days 61 = .ok (.invokevirtual 103, 3) := by decide +kernel
theorem dX5_days_64 : decode cX5_days 64 = .ok (.ireturn, 1) := by decide +kernel
set_option maxRecDepth 20000 in
theorem ggX5_drift_X5_in : GoodIn wsX5_drift wsX5_in := goodIn_r _ [10] (by decide +kernel) (by decide +kernel)
set_option maxRecDepth 20000 in
theorem gX5_drift_X5_in : GoodIn wsX5_drift (va_wsS RX5 44 yX5_in wsX5_in) := goodIn_app (goodIn_of _ (by decide +kernel)) ggX5_drift_X5_in
set_option maxRecDepth 20000 in
theorem ggX5_drift_X5_notes : GoodIn wsX5_drift wsX5_notes := goodIn_r _ [14, 15, 16, 2, 54, 55, 56, 57, 58, 59, 60, 61, 62, 63, 64, 65, 66, 67, 68, 69, 70] (by decide +kernel) (by decide +kernel)
set_option maxRecDepth 20000 in
theorem gX5_drift_X5_notes : GoodIn wsX5_drift (wsV RX5 157 RX5 yX5_notes wsX5_notes) := goodIn_app (goodIn_of _ (by decide +kernel)) ggX5_drift_X5_notes
set_option maxRecDepth 20000 in
theorem ggX5_drift_X5_goesBy : GoodIn wsX5_drift wsX5_goesBy := goodIn_r _ [20, 2, 21, 22, 23, 24, 9, 25, 26, 27, 28, 29, 30, 31, 32, 33, 34, 35, 36, 37, 38, 39, 40, 41, 42, 43, 44, 45, 46, 47, 48, 49, 54, 55, 56, 57, 58, 59, 60, 61, 62, 63, 64, 65, 66, 67, 68, 69, 70] (by decide +kernel) (by decide +kernel)
set_option maxRecDepth 20000 in
theorem gX5_drift_X5_goesBy : GoodIn wsX5_drift (wsV RX5 154 RX5 yX5_goesBy wsX5_goesBy) := goodIn_app (goodIn_of _ (by decide +kernel)) ggX5_drift_X5_goesBy
set_option maxRecDepth 20000 in
theorem ggX5_drift_X5_times : GoodIn wsX5_drift wsX5_times := goodIn_r _ [53, 2, 42, 43, 44, 9, 45, 26, 27, 28, 29, 54, 55, 56, 57, 58, 59, 60, 61, 62, 63, 64, 65, 66, 67, 68, 69, 70] (by decide +kernel) (by decide +kernel)
set_option maxRecDepth 20000 in
theorem gX5_drift_X5_times : GoodIn wsX5_drift (wsV RX5 103 RX5 yX5_times wsX5_times) := goodIn_app (goodIn_of _ (by decide +kernel)) ggX5_drift_X5_times
theorem dX5_drift_0 : decode cX5_drift 0 = .ok (.iload_n 1, 1) := by decide +kernel
theorem dX5_drift_1 : decode cX5_drift 1 = .ok (.i2l, 1) := by decide +kernel
theorem dX5_drift_2 : decode cX5_drift 2 = .ok (.lconst 1, 1) := by decide +kernel
theorem dX5_drift_3 : decode cX5_drift 3 = .ok (.ldc2_w 160, 3) := by decide +kernel
theorem dX5_drift_6 : decode cX5_drift 6 = .ok (.invokestatic 44, 3) := by decide +kernel
theorem dX5_drift_9 : decode cX5_drift 9 = .ok (.ifCond .ne 5, 3) := by decide +kernel
theorem dX5_drift_12 : decode cX5_drift 12 = .ok (.iconst (-1), 1) := by decide +kernel
theorem dX5_drift_13 : decode cX5_drift 13 = .ok (.ireturn, 1) := by decide +kernel
theorem dX5_drift_14 : decode cX5_drift 14 = .ok (.aload_n 0, 1) := by decide +kernel
theorem dX5_drift_15 : decode cX5_drift 15 = .ok (.getfield 7, 3) := by decide +kernel
theorem dX5_drift_18 : decode cX5_drift 18 = .ok (.iconst 1, 1) := by decide +kernel
theorem dX5_drift_19 : decode cX5_drift 19 = .ok (.iaload, 1) := by decide +kernel
theorem dX5_drift_20 : decode cX5_drift 20 = .ok (.iload_n 1, 1) := by decide +kernel
theorem dX5_drift_21 : decode cX5_drift 21 = .ok (.iadd, 1) := by decide +kernel
theorem dX5_drift_22 : decode cX5_drift 22 = .ok (.sipush 9999, 3) := by decide +kernel
theorem dX5_drift_25 : decode cX5_drift 25 = .ok (.if_icmp .le 6, 3) := by decide +kernel
theorem dX5_drift_28 : decode cX5_drift 28 = .ok (.bipush (-3), 2) := by decide +kernel
theorem dX5_drift_30 : decode cX5_drift 30 = .ok (.ireturn, 1) := by decide +kernel
theorem dX5_drift_31 : decode cX5_drift 31 = .ok (.iconst 0, 1) := by decide +kernel
theorem dX5_drift_32 : decode cX5_drift 32 = .ok (.istore_n 2, 1) := by decide +kernel
theorem dX5_drift_33 : decode cX5_drift 33 = .ok (.iload_n 2, 1) := by decide +kernel
theorem dX5_drift_34 : decode cX5_drift 34 = .ok (.iload_n 1, 1) := by decide +kernel
theorem dX5_drift_35 : decode cX5_drift 35 = .ok (.if_icmp .ge 55, 3) := by decide +kernel
theorem dX5_drift_38 : decode cX5_drift 38 = .ok (.aload_n 0, 1) := by decide +kernel
theorem dX5_drift_39 : decode cX5_drift 39 = .ok (.invokevirtual 157, 3) := by decide +kernel
theorem dX5_drift_42 : decode cX5_drift 42 = .ok (.aload_n 0, 1) := by decide +kernel
theorem dX5_drift_43 : decode cX5_drift 43 = .ok (.getfield 7, 3) := by decide +kernel
theorem dX5_drift_46 : decode cX5_drift 46 = .ok (.iconst 4, 1) := by decide +kernel
theorem dX5_drift_47 : decode cX5_drift 47 = .ok (.aload_n 0, 1) := by decide +kernel
theorem dX5_drift_48 : decode cX5_drift 48 = .ok (.getfield 7, 3) := by decide +kernel
theorem dX5_drift_51 : decode cX5_drift 51 = .ok (.iconst 4, 1) := by decide +kernel
theorem dX5_drift_52 : decode cX5_drift 52 = .ok (.iaload, 1) := by decide +kernel
theorem dX5_drift_53 : decode cX5_drift 53 = .ok (.i2l, 1) := by decide +kernel
theorem dX5_drift_54 : decode cX5_drift 54 = .ok (.ldc2_w 165, 3) := by decide +kernel
theorem dX5_drift_57 : decode cX5_drift 57 = .ok (.lmul, 1) := by decide +kernel
theorem dX5_drift_58 : decode cX5_drift 58 = .ok (.ldc2_w 167, 3) := by decide +kernel
theorem dX5_drift_61 : decode cX5_drift 61 = .ok (.ladd, 1) := by decide +kernel
theorem dX5_drift_62 : decode cX5_drift 62 = .ok (.ldc2_w 169, 3) := by decide +kernel
theorem dX5_drift_65 : decode cX5_drift 65 = .ok (.land, 1) := by decide +kernel
theorem dX5_drift_66 : decode cX5_drift 66 = .ok (.l2i, 1) := by decide +kernel
theorem dX5_drift_67 : decode cX5_drift 67 = .ok (.iastore, 1) := by decide +kernel
theorem dX5_drift_68 : decode cX5_drift 68 = .ok (.aload_n 0, 1) := by decide +kernel
theorem dX5_drift_69 : decode cX5_drift 69 = .ok (.aload_n 0, 1) := by decide +kernel
theorem dX5_drift_70 : decode cX5_drift 70 = .ok (.getfield 7, 3) := by decide +kernel
theorem dX5_drift_73 : decode cX5_drift 73 = .ok (.iconst 4, 1) := by decide +kernel
theorem dX5_drift_74 : decode cX5_drift 74 = .ok (.iaload, 1) := by decide +kernel
theorem dX5_drift_75 : decode cX5_drift 75 = .ok (.ldc 171, 2) := by decide +kernel
theorem dX5_drift_77 : decode cX5_drift 77 = .ok (.idiv, 1) := by decide +kernel
theorem dX5_drift_78 : decode cX5_drift 78 = .ok (.bipush 10, 2) := by decide +kernel
theorem dX5_drift_80 : decode cX5_drift 80 = .ok (.irem, 1) := by decide +kernel
theorem dX5_drift_81 : decode cX5_drift 81 = .ok (.invokevirtual 154, 3) := by decide +kernel
theorem dX5_drift_84 : decode cX5_drift 84 = .ok (.iinc 2 1, 3) := by decide +kernel
theorem dX5_drift_87 : decode cX5_drift 87 = .ok (.goto (-54), 3) := by decide +kernel
theorem dX5_drift_90 : decode cX5_drift 90 = .ok (.aload_n 0, 1) := by decide +kernel
theorem dX5_drift_91 : decode cX5_drift 91 = .ok (.invokevirtual 103, 3) := by decide +kernel
theorem dX5_drift_94 : decode cX5_drift 94 = .ok (.ireturn, 1) := by decide +kernel
theorem dX5_undo_0 : decode cX5_undo 0 = .ok (.aload_n 0, 1) := by decide +kernel
theorem dX5_undo_1 : decode cX5_undo 1 = .ok (.getfield 77, 3) := by decide +kernel
theorem dX5_undo_4 : decode cX5_undo 4 = .ok (.ifCond .ne 6, 3) := by decide +kernel
theorem dX5_undo_7 : decode cX5_undo 7 = .ok (.bipush (-4), 2) := by decide +kernel
theorem dX5_undo_9 : decode cX5_undo 9 = .ok (.ireturn, 1) := by decide +kernel
theorem dX5_undo_10 : decode cX5_undo 10 = .ok (.aload_n 0, 1) := by decide +kernel
theorem dX5_undo_11 : decode cX5_undo 11 = .ok (.dup, 1) := by decide +kernel
theorem dX5_undo_12 : decode cX5_undo 12 = .ok (.getfield 77, 3) := by decide +kernel
theorem dX5_undo_15 : decode cX5_undo 15 = .ok (.iconst 1, 1) := by decide +kernel
theorem dX5_undo_16 : decode cX5_undo 16 = .ok (.isub, 1) := by decide +kernel
theorem dX5_undo_17 : decode cX5_undo 17 = .ok (.putfield 77, 3) := by decide +kernel
theorem dX5_undo_20 : decode cX5_undo 20 = .ok (.iconst 0, 1) := by decide +kernel
theorem dX5_undo_21 : decode cX5_undo 21 = .ok (.istore_n 1, 1) := by decide +kernel
theorem dX5_undo_22 : decode cX5_undo 22 = .ok (.iload_n 1, 1) := by decide +kernel
theorem dX5_undo_23 : decode cX5_undo 23 = .ok (.bipush 48, 2) := by decide +kernel
theorem dX5_undo_25 : decode cX5_undo 25 = .ok (.if_icmp .ge 32, 3) := by decide +kernel
theorem dX5_undo_28 : decode cX5_undo 28 = .ok (.aload_n 0, 1) := by decide +kernel
theorem dX5_undo_29 : decode cX5_undo 29 = .ok (.getfield 7, 3) := by decide +kernel
theorem dX5_undo_32 : decode cX5_undo 32 = .ok (.bipush 17, 2) := by decide +kernel
theorem dX5_undo_34 : decode cX5_undo 34 = .ok (.iload_n 1, 1) := by decide +kernel
theorem dX5_undo_35 : decode cX5_undo 35 = .ok (.iadd, 1) := by decide +kernel
theorem dX5_undo_36 : decode cX5_undo 36 = .ok (.aload_n 0, 1) := by decide +kernel
theorem dX5_undo_37 : decode cX5_undo 37 = .ok (.getfield 22, 3) := by decide +kernel
theorem dX5_undo_40 : decode cX5_undo 40 = .ok (.bipush 50, 2) := by decide +kernel
theorem dX5_undo_42 : decode cX5_undo 42 = .ok (.aload_n 0, 1) := by decide +kernel
theorem dX5_undo_43 : decode cX5_undo 43 = .ok (.getfield 77, 3) := by decide +kernel
theorem dX5_undo_46 : decode cX5_undo 46 = .ok (.imul, 1) := by decide +kernel
theorem dX5_undo_47 : decode cX5_undo 47 = .ok (.iload_n 1, 1) := by decide +kernel
theorem dX5_undo_48 : decode cX5_undo 48 = .ok (.iadd, 1) := by decide +kernel
theorem dX5_undo_49 : decode cX5_undo 49 = .ok (.iaload, 1) := by decide +kernel
theorem dX5_undo_50 : decode cX5_undo 50 = .ok (.iastore, 1) := by decide +kernel
theorem dX5_undo_51 : decode cX5_undo 51 = .ok (.iinc 1 1, 3) := by decide +kernel
theorem dX5_undo_54 : decode cX5_undo 54 = .ok (.goto (-32), 3) := by decide +kernel
theorem dX5_undo_57 : decode cX5_undo 57 = .ok (.aload_n 0, 1) := by decide +kernel
theorem dX5_undo_58 : decode cX5_undo 58 = .ok (.getfield 7, 3) := by decide +kernel
theorem dX5_undo_61 : decode cX5_undo 61 = .ok (.iconst 1, 1) := by decide +kernel
theorem dX5_undo_62 : decode cX5_undo 62 = .ok (.aload_n 0, 1) := by decide +kernel
theorem dX5_undo_63 : decode cX5_undo 63 = .ok (.getfield 22, 3) := by decide +kernel
theorem dX5_undo_66 : decode cX5_undo 66 = .ok (.bipush 50, 2) := by decide +kernel
theorem dX5_undo_68 : decode cX5_undo 68 = .ok (.aload_n 0, 1) := by decide +kernel
theorem dX5_undo_69 : decode cX5_undo 69 = .ok (.getfield 77, 3) := by decide +kernel
theorem dX5_undo_72 : decode cX5_undo 72 = .ok (.imul, 1) := by decide +kernel
theorem dX5_undo_73 : decode cX5_undo 73 = .ok (.bipush 48, 2) := by decide +kernel
theorem dX5_undo_75 : decode cX5_undo 75 = .ok (.iadd, 1) := by decide +kernel
theorem dX5_undo_76 : decode cX5_undo 76 = .ok (.iaload, 1) := by decide +kernel
theorem dX5_undo_77 : decode cX5_undo 77 = .ok (.iastore, 1) := by decide +kernel
theorem dX5_undo_78 : decode cX5_undo 78 = .ok (.aload_n 0, 1) := by decide +kernel
theorem dX5_undo_79 : decode cX5_undo 79 = .ok (.getfield 7, 3) := by decide +kernel
theorem dX5_undo_82 : decode cX5_undo 82 = .ok (.iconst 4, 1) := by decide +kernel
theorem dX5_undo_83 : decode cX5_undo 83 = .ok (.aload_n 0, 1) := by decide +kernel
theorem dX5_undo_84 : decode cX5_undo 84 = .ok (.getfield 22, 3) := by decide +kernel
theorem dX5_undo_87 : decode cX5_undo 87 = .ok (.bipush 50, 2) := by decide +kernel
theorem dX5_undo_89 : decode cX5_undo 89 = .ok (.aload_n 0, 1) := by decide +kernel
theorem dX5_undo_90 : decode cX5_undo 90 = .ok (.getfield 77, 3) := by decide +kernel
theorem dX5_undo_93 : decode cX5_undo 93 = .ok (.imul, 1) := by decide +kernel
theorem dX5_undo_94 : decode cX5_undo 94 = .ok (.bipush 49, 2) := by decide +kernel
theorem dX5_undo_96 : decode cX5_undo 96 = .ok (.iadd, 1) := by decide +kernel
theorem dX5_undo_97 : decode cX5_undo 97 = .ok (.iaload, 1) := by decide +kernel
theorem dX5_undo_98 : decode cX5_undo 98 = .ok (.iastore, 1) := by decide +kernel
theorem dX5_undo_99 : decode cX5_undo 99 = .ok (.aload_n 0, 1) := by decide +kernel
theorem dX5_undo_100 : decode cX5_undo 100 = .ok (.getfield 77, 3) := by decide +kernel
theorem dX5_undo_103 : decode cX5_undo 103 = .ok (.ireturn, 1) := by decide +kernel
theorem dX5_seed_0 : decode cX5_seed 0 = .ok (.iload_n 1, 1) := by decide +kernel
theorem dX5_seed_1 : decode cX5_seed 1 = .ok (.ifCond .ge 5, 3) := by decide +kernel
theorem dX5_seed_4 : decode cX5_seed 4 = .ok (.iconst (-1), 1) := by decide +kernel
theorem dX5_seed_5 : decode cX5_seed 5 = .ok (.ireturn, 1) := by decide +kernel
theorem dX5_seed_6 : decode cX5_seed 6 = .ok (.aload_n 0, 1) := by decide +kernel
theorem dX5_seed_7 : decode cX5_seed 7 = .ok (.getfield 7, 3) := by decide +kernel
theorem dX5_seed_10 : decode cX5_seed 10 = .ok (.iconst 4, 1) := by decide +kernel
theorem dX5_seed_11 : decode cX5_seed 11 = .ok (.iaload, 1) := by decide +kernel
theorem dX5_seed_12 : decode cX5_seed 12 = .ok (.istore_n 2, 1) := by decide +kernel
theorem dX5_seed_13 : decode cX5_seed 13 = .ok (.aload_n 0, 1) := by decide +kernel
theorem dX5_seed_14 : decode cX5_seed 14 = .ok (.getfield 7, 3) := by decide +kernel
theorem dX5_seed_17 : decode cX5_seed 17 = .ok (.iconst 4, 1) := by decide +kernel
theorem dX5_seed_18 : decode cX5_seed 18 = .ok (.iload_n 1, 1) := by decide +kernel
theorem dX5_seed_19 : decode cX5_seed 19 = .ok (.iastore, 1) := by decide +kernel
theorem dX5_seed_20 : decode cX5_seed 20 = .ok (.iload_n 2, 1) := by decide +kernel
theorem dX5_seed_21 : decode cX5_seed 21 = .ok (.ireturn, 1) := by decide +kernel
theorem dX5_asides_0 : decode cX5_asides 0 = .ok (.iconst 0, 1) := by decide +kernel
theorem dX5_asides_1 : decode cX5_asides 1 = .ok (.istore_n 1, 1) := by decide +kernel
theorem dX5_asides_2 : decode cX5_asides 2 = .ok (.iload_n 1, 1) := by decide +kernel
theorem dX5_asides_3 : decode cX5_asides 3 = .ok (.bipush 65, 2) := by decide +kernel
theorem dX5_asides_5 : decode cX5_asides 5 = .ok (.if_icmp .ge 21, 3) := by decide +kernel
theorem dX5_asides_8 : decode cX5_asides 8 = .ok (.aload_n 0, 1) := by decide +kernel
theorem dX5_asides_9 : decode cX5_asides 9 = .ok (.getfield 25, 3) := by decide +kernel
theorem dX5_asides_12 : decode cX5_asides 12 = .ok (.iload_n 1, 1) := by decide +kernel
theorem dX5_asides_13 : decode cX5_asides 13 = .ok (.aload_n 0, 1) := by decide +kernel
theorem dX5_asides_14 : decode cX5_asides 14 = .ok (.getfield 7, 3) := by decide +kernel
theorem dX5_asides_17 : decode cX5_asides 17 = .ok (.iload_n 1, 1) := by decide +kernel
theorem dX5_asides_18 : decode cX5_asides 18 = .ok (.iaload, 1) := by decide +kernel
theorem dX5_asides_19 : decode cX5_asides 19 = .ok (.iastore, 1) := by decide +kernel
theorem dX5_asides_20 : decode cX5_asides 20 = .ok (.iinc 1 1, 3) := by decide +kernel
theorem dX5_asides_23 : decode cX5_asides 23 = .ok (.goto (-21), 3) := by decide +kernel
theorem dX5_asides_26 : decode cX5_asides 26 = .ok (.return_, 1) := by decide +kernel
theorem dX5_backs_0 : decode cX5_backs 0 = .ok (.iconst 0, 1) := by decide +kernel
theorem dX5_backs_1 : decode cX5_backs 1 = .ok (.istore_n 1, 1) := by decide +kernel
theorem dX5_backs_2 : decode cX5_backs 2 = .ok (.iload_n 1, 1) := by decide +kernel
theorem dX5_backs_3 : decode cX5_backs 3 = .ok (.bipush 65, 2) := by decide +kernel
theorem dX5_backs_5 : decode cX5_backs 5 = .ok (.if_icmp .ge 21, 3) := by decide +kernel
theorem dX5_backs_8 : decode cX5_backs 8 = .ok (.aload_n 0, 1) := by decide +kernel
theorem dX5_backs_9 : decode cX5_backs 9 = .ok (.getfield 7, 3) := by decide +kernel
theorem dX5_backs_12 : decode cX5_backs 12 = .ok (.iload_n 1, 1) := by decide +kernel
theorem dX5_backs_13 : decode cX5_backs 13 = .ok (.aload_n 0, 1) := by decide +kernel
theorem dX5_backs_14 : decode cX5_backs 14 = .ok (.getfield 25, 3) := by decide +kernel
theorem dX5_backs_17 : decode cX5_backs 17 = .ok (.iload_n 1, 1) := by decide +kernel
theorem dX5_backs_18 : decode cX5_backs 18 = .ok (.iaload, 1) := by decide +kernel
theorem dX5_backs_19 : decode cX5_backs 19 = .ok (.iastore, 1) := by decide +kernel
theorem dX5_backs_20 : decode cX5_backs 20 = .ok (.iinc 1 1, 3) := by decide +kernel
theorem dX5_backs_23 : decode cX5_backs 23 = .ok (.goto (-21), 3) := by decide +kernel
theorem dX5_backs_26 : decode cX5_backs 26 = .ok (.return_, 1) := by decide +kernel
set_option maxRecDepth 20000 in
theorem ggX5_ahead_X5_isThing : GoodIn wsX5_ahead wsX5_isThing := goodIn_r _ [5, 6, 7, 8, 4, 9] (by decide +kernel) (by decide +kernel)
set_option maxRecDepth 20000 in
theorem gX5_ahead_X5_isThing : GoodIn wsX5_ahead (va_wsS RX5 96 yX5_isThing wsX5_isThing) := goodIn_app (goodIn_of _ (by decide +kernel)) ggX5_ahead_X5_isThing
set_option maxRecDepth 20000 in
theorem ggX5_ahead_X5_in : GoodIn wsX5_ahead wsX5_in := goodIn_r _ [9] (by decide +kernel) (by decide +kernel)
set_option maxRecDepth 20000 in
theorem gX5_ahead_X5_in : GoodIn wsX5_ahead (va_wsS RX5 44 yX5_in wsX5_in) := goodIn_app (goodIn_of _ (by decide +kernel)) ggX5_ahead_X5_in
set_option maxRecDepth 20000 in
theorem ggX5_ahead_X5_isHeat : GoodIn wsX5_ahead wsX5_isHeat := goodIn_r _ [12, 13, 7, 8, 4, 9] (by decide +kernel) (by decide +kernel)
set_option maxRecDepth 20000 in
theorem gX5_ahead_X5_isHeat : GoodIn wsX5_ahead (va_wsS RX5 162 yX5_isHeat wsX5_isHeat) := goodIn_app (goodIn_of _ (by decide +kernel)) ggX5_ahead_X5_isHeat
set_option maxRecDepth 20000 in
theorem ggX5_ahead_X5_asides : GoodIn wsX5_ahead wsX5_asides := goodIn_r _ [17, 18, 19, 65, 66, 67, 68, 69, 70, 71, 72, 73, 74, 75, 76, 77, 78, 79, 80, 81] (by decide +kernel) (by decide +kernel)
set_option maxRecDepth 20000 in
theorem gX5_ahead_X5_asides : GoodIn wsX5_ahead (wsV RX5 174 RX5 yX5_asides wsX5_asides) := goodIn_app (goodIn_of _ (by decide +kernel)) ggX5_ahead_X5_asides
set_option maxRecDepth 20000 in
theorem ggX5_ahead_X5_goesOn : GoodIn wsX5_ahead wsX5_goesOn := goodIn_r _ [23, 24, 25, 26, 4, 27, 19, 28, 29, 30, 31, 32, 33, 34, 35, 36, 37, 38, 39, 40, 41, 42, 43, 44, 45, 46, 47, 48, 49, 50, 51, 52, 53, 54, 55, 56, 65, 66, 67, 68, 69, 70, 71, 72, 73, 74, 75, 76, 77, 78, 79, 80, 81] (by decide +kernel) (by decide +kernel)
set_option maxRecDepth 20000 in
theorem gX5_ahead_X5_goesOn : GoodIn wsX5_ahead (wsV RX5 177 RX5 yX5_goesOn wsX5_goesOn) := goodIn_app (goodIn_of _ (by decide +kernel)) ggX5_ahead_X5_goesOn
set_option maxRecDepth 20000 in
theorem ggX5_ahead_X5_who : GoodIn wsX5_ahead wsX5_who := goodIn_r _ [60, 19, 49, 50, 51, 4, 52, 33, 34, 35, 36, 65, 66, 67, 68, 69, 70, 71, 72, 73, 74, 75, 76, 77, 78, 79, 80, 81] (by decide +kernel) (by decide +kernel)
set_option maxRecDepth 20000 in
theorem gX5_ahead_X5_who : GoodIn wsX5_ahead (wsV RX5 64 RX5 yX5_who wsX5_who) := goodIn_app (goodIn_of _ (by decide +kernel)) ggX5_ahead_X5_who
set_option maxRecDepth 20000 in
theorem ggX5_ahead_X5_backs : GoodIn wsX5_ahead wsX5_backs := goodIn_r _ [64, 19, 18, 65, 66, 67, 68, 69, 70, 71, 72, 73, 74, 75, 76, 77, 78, 79, 80, 81] (by decide +kernel) (by decide +kernel)
set_option maxRecDepth 20000 in
theorem gX5_ahead_X5_backs : GoodIn wsX5_ahead (wsV RX5 181 RX5 yX5_backs wsX5_backs) := goodIn_app (goodIn_of _ (by decide +kernel)) ggX5_ahead_X5_backs
theorem dX5_ahead_0 : decode cX5_ahead 0 = .ok (.iload_n 1, 1) := by decide +kernel
theorem dX5_ahead_1 : decode cX5_ahead 1 = .ok (.invokestatic 96, 3) := by decide +kernel
theorem dX5_ahead_4 : decode cX5_ahead 4 = .ok (.ifCond .eq 22, 3) := by decide +kernel
theorem dX5_ahead_7 : decode cX5_ahead 7 = .ok (.iload_n 2, 1) := by decide +kernel
theorem dX5_ahead_8 : decode cX5_ahead 8 = .ok (.i2l, 1) := by decide +kernel
theorem dX5_ahead_9 : decode cX5_ahead 9 = .ok (.lconst 0, 1) := by decide +kernel
theorem dX5_ahead_10 : decode cX5_ahead 10 = .ok (.ldc2_w 172, 3) := by decide +kernel
theorem dX5_ahead_13 : decode cX5_ahead 13 = .ok (.invokestatic 44, 3) := by decide +kernel
theorem dX5_ahead_16 : decode cX5_ahead 16 = .ok (.ifCond .eq 10, 3) := by decide +kernel
theorem dX5_ahead_19 : decode cX5_ahead 19 = .ok (.iload_n 3, 1) := by decide +kernel
theorem dX5_ahead_20 : decode cX5_ahead 20 = .ok (.invokestatic 162, 3) := by decide +kernel
theorem dX5_ahead_23 : decode cX5_ahead 23 = .ok (.ifCond .ne 5, 3) := by decide +kernel
theorem dX5_ahead_26 : decode cX5_ahead 26 = .ok (.iconst (-1), 1) := by decide +kernel
theorem dX5_ahead_27 : decode cX5_ahead 27 = .ok (.ireturn, 1) := by decide +kernel
theorem dX5_ahead_28 : decode cX5_ahead 28 = .ok (.aload_n 0, 1) := by decide +kernel
theorem dX5_ahead_29 : decode cX5_ahead 29 = .ok (.invokevirtual 174, 3) := by decide +kernel
theorem dX5_ahead_32 : decode cX5_ahead 32 = .ok (.aload_n 0, 1) := by decide +kernel
theorem dX5_ahead_33 : decode cX5_ahead 33 = .ok (.iload_n 2, 1) := by decide +kernel
theorem dX5_ahead_34 : decode cX5_ahead 34 = .ok (.iload_n 3, 1) := by decide +kernel
theorem dX5_ahead_35 : decode cX5_ahead 35 = .ok (.invokevirtual 177, 3) := by decide +kernel
theorem dX5_ahead_38 : decode cX5_ahead 38 = .ok (.aload_n 0, 1) := by decide +kernel
theorem dX5_ahead_39 : decode cX5_ahead 39 = .ok (.iload_n 1, 1) := by decide +kernel
theorem dX5_ahead_40 : decode cX5_ahead 40 = .ok (.invokevirtual 64, 3) := by decide +kernel
theorem dX5_ahead_43 : decode cX5_ahead 43 = .ok (.istore 4, 2) := by decide +kernel
theorem dX5_ahead_45 : decode cX5_ahead 45 = .ok (.aload_n 0, 1) := by decide +kernel
theorem dX5_ahead_46 : decode cX5_ahead 46 = .ok (.invokevirtual 181, 3) := by decide +kernel
theorem dX5_ahead_49 : decode cX5_ahead 49 = .ok (.iload 4, 2) := by decide +kernel
theorem dX5_ahead_51 : decode cX5_ahead 51 = .ok (.ireturn, 1) := by decide +kernel
set_option maxRecDepth 20000 in
theorem ggX5_rankAhead_X5_isPerson : GoodIn wsX5_rankAhead wsX5_isPerson := goodIn_r _ [6, 7, 8, 9, 5, 10, 65, 66, 67, 68, 69, 70, 71, 72, 73, 74, 75, 76, 77, 78, 79, 80, 81] (by decide +kernel) (by decide +kernel)
set_option maxRecDepth 20000 in
theorem gX5_rankAhead_X5_isPerson : GoodIn wsX5_rankAhead (wsV RX5 81 RX5 yX5_isPerson wsX5_isPerson) := goodIn_app (goodIn_of _ (by decide +kernel)) ggX5_rankAhead_X5_isPerson
set_option maxRecDepth 20000 in
theorem ggX5_rankAhead_X5_in : GoodIn wsX5_rankAhead wsX5_in := goodIn_r _ [10] (by decide +kernel) (by decide +kernel)
set_option maxRecDepth 20000 in
theorem gX5_rankAhead_X5_in : GoodIn wsX5_rankAhead (va_wsS RX5 44 yX5_in wsX5_in) := goodIn_app (goodIn_of _ (by decide +kernel)) ggX5_rankAhead_X5_in
set_option maxRecDepth 20000 in
theorem ggX5_rankAhead_X5_isHeat : GoodIn wsX5_rankAhead wsX5_isHeat := goodIn_r _ [13, 14, 8, 9, 5, 10] (by decide +kernel) (by decide +kernel)
set_option maxRecDepth 20000 in
theorem gX5_rankAhead_X5_isHeat : GoodIn wsX5_rankAhead (va_wsS RX5 162 yX5_isHeat wsX5_isHeat) := goodIn_app (goodIn_of _ (by decide +kernel)) ggX5_rankAhead_X5_isHeat
set_option maxRecDepth 20000 in
theorem ggX5_rankAhead_X5_asides : GoodIn wsX5_rankAhead wsX5_asides := goodIn_r _ [18, 19, 7, 65, 66, 67, 68, 69, 70, 71, 72, 73, 74, 75, 76, 77, 78, 79, 80, 81] (by decide +kernel) (by decide +kernel)
set_option maxRecDepth 20000 in
theorem gX5_rankAhead_X5_asides : GoodIn wsX5_rankAhead (wsV RX5 174 RX5 yX5_asides wsX5_asides) := goodIn_app (goodIn_of _ (by decide +kernel)) ggX5_rankAhead_X5_asides
set_option maxRecDepth 20000 in
theorem ggX5_rankAhead_X5_goesOn : GoodIn wsX5_rankAhead wsX5_goesOn := goodIn_r _ [23, 24, 25, 26, 5, 27, 7, 28, 29, 30, 31, 32, 33, 34, 35, 36, 37, 38, 39, 40, 41, 42, 43, 44, 45, 46, 47, 48, 49, 50, 51, 52, 53, 54, 55, 56, 65, 66, 67, 68, 69, 70, 71, 72, 73, 74, 75, 76, 77, 78, 79, 80, 81] (by decide +kernel) (by decide +kernel)
set_option maxRecDepth 20000 in
theorem gX5_rankAhead_X5_goesOn : GoodIn wsX5_rankAhead (wsV RX5 177 RX5 yX5_goesOn wsX5_goesOn) := goodIn_app (goodIn_of _ (by decide +kernel)) ggX5_rankAhead_X5_goesOn
set_option maxRecDepth 20000 in
theorem ggX5_rankAhead_X5_rank : GoodIn wsX5_rankAhead wsX5_rank := goodIn_r _ [60, 33, 34, 35, 5, 36, 7, 65, 66, 67, 68, 69, 70, 71, 72, 73, 74, 75, 76, 77, 78, 79, 80, 81] (by decide +kernel) (by decide +kernel)
set_option maxRecDepth 20000 in
theorem gX5_rankAhead_X5_rank : GoodIn wsX5_rankAhead (wsV RX5 90 RX5 yX5_rank wsX5_rank) := goodIn_app (goodIn_of _ (by decide +kernel)) ggX5_rankAhead_X5_rank
set_option maxRecDepth 20000 in
theorem ggX5_rankAhead_X5_backs : GoodIn wsX5_rankAhead wsX5_backs := goodIn_r _ [64, 7, 19, 65, 66, 67, 68, 69, 70, 71, 72, 73, 74, 75, 76, 77, 78, 79, 80, 81] (by decide +kernel) (by decide +kernel)
set_option maxRecDepth 20000 in
theorem gX5_rankAhead_X5_backs : GoodIn wsX5_rankAhead (wsV RX5 181 RX5 yX5_backs wsX5_backs) := goodIn_app (goodIn_of _ (by decide +kernel)) ggX5_rankAhead_X5_backs
theorem dX5_rankAhead_0 : decode cX5_rankAhead 0 = .ok (.aload_n 0, 1) := by decide +kernel
theorem dX5_rankAhead_1 : decode cX5_rankAhead 1 = .ok (.iload_n 1, 1) := by decide +kernel
theorem dX5_rankAhead_2 : decode cX5_rankAhead 2 = .ok (.invokevirtual 81, 3) := by decide +kernel
theorem dX5_rankAhead_5 : decode cX5_rankAhead 5 = .ok (.ifCond .eq 22, 3) := by decide +kernel
theorem dX5_rankAhead_8 : decode cX5_rankAhead 8 = .ok (.iload_n 2, 1) := by decide +kernel
theorem dX5_rankAhead_9 : decode cX5_rankAhead 9 = .ok (.i2l, 1) := by decide +kernel
theorem dX5_rankAhead_10 : decode cX5_rankAhead 10 = .ok (.lconst 0, 1) := by decide +kernel
theorem dX5_rankAhead_11 : decode cX5_rankAhead 11 = .ok (.ldc2_w 172, 3) := by decide +kernel
theorem dX5_rankAhead_14 : decode cX5_rankAhead 14 = .ok (.invokestatic 44, 3) := by decide +kernel
theorem dX5_rankAhead_17 : decode cX5_rankAhead 17 = .ok (.ifCond .eq 10, 3) := by decide +kernel
theorem dX5_rankAhead_20 : decode cX5_rankAhead 20 = .ok (.iload_n 3, 1) := by decide +kernel
theorem dX5_rankAhead_21 : decode cX5_rankAhead 21 = .ok (.invokestatic 162, 3) := by decide +kernel
theorem dX5_rankAhead_24 : decode cX5_rankAhead 24 = .ok (.ifCond .ne 5, 3) := by decide +kernel
theorem dX5_rankAhead_27 : decode cX5_rankAhead 27 = .ok (.iconst (-1), 1) := by decide +kernel
theorem dX5_rankAhead_28 : decode cX5_rankAhead 28 = .ok (.ireturn, 1) := by decide +kernel
theorem dX5_rankAhead_29 : decode cX5_rankAhead 29 = .ok (.aload_n 0, 1) := by decide +kernel
theorem dX5_rankAhead_30 : decode cX5_rankAhead 30 = .ok (.invokevirtual 174, 3) := by decide +kernel
theorem dX5_rankAhead_33 : decode cX5_rankAhead 33 = .ok (.aload_n 0, 1) := by decide +kernel
theorem dX5_rankAhead_34 : decode cX5_rankAhead 34 = .ok (.iload_n 2, 1) := by decide +kernel
theorem dX5_rankAhead_35 : decode cX5_rankAhead 35 = .ok (.iload_n 3, 1) := by decide +kernel
theorem dX5_rankAhead_36 : decode cX5_rankAhead 36 = .ok (.invokevirtual 177, 3) := by decide +kernel
theorem dX5_rankAhead_39 : decode cX5_rankAhead 39 = .ok (.aload_n 0, 1) := by decide +kernel
theorem dX5_rankAhead_40 : decode cX5_rankAhead 40 = .ok (.iload_n 1, 1) := by decide +kernel
theorem dX5_rankAhead_41 : decode cX5_rankAhead 41 = .ok (.invokevirtual 90, 3) := by decide +kernel
theorem dX5_rankAhead_44 : decode cX5_rankAhead 44 = .ok (.istore 4, 2) := by decide +kernel
theorem dX5_rankAhead_46 : decode cX5_rankAhead 46 = .ok (.aload_n 0, 1) := by decide +kernel
theorem dX5_rankAhead_47 : decode cX5_rankAhead 47 = .ok (.invokevirtual 181, 3) := by decide +kernel
theorem dX5_rankAhead_50 : decode cX5_rankAhead 50 = .ok (.iload 4, 2) := by decide +kernel
theorem dX5_rankAhead_52 : decode cX5_rankAhead 52 = .ok (.ireturn, 1) := by decide +kernel
set_option maxRecDepth 20000 in
theorem ggX5_leaksIn_X5_times : GoodIn wsX5_leaksIn wsX5_times := goodIn_r _ [5, 6, 7, 8, 9, 4, 10, 11, 12, 13, 14, 49, 50, 51, 52, 53, 54, 55, 56, 57, 58, 59, 60, 61, 62, 63, 64, 65] (by decide +kernel) (by decide +kernel)
set_option maxRecDepth 20000 in
theorem gX5_leaksIn_X5_times : GoodIn wsX5_leaksIn (wsV RX5 103 RX5 yX5_times wsX5_times) := goodIn_app (goodIn_of _ (by decide +kernel)) ggX5_leaksIn_X5_times
set_option maxRecDepth 20000 in
theorem ggX5_leaksIn_X5_goesOn : GoodIn wsX5_leaksIn wsX5_goesOn := goodIn_r _ [18, 19, 20, 21, 4, 22, 6, 23, 24, 25, 26, 27, 11, 12, 13, 14, 28, 29, 30, 31, 32, 33, 34, 35, 36, 37, 38, 39, 7, 8, 9, 10, 40, 41, 42, 43, 49, 50, 51, 52, 53, 54, 55, 56, 57, 58, 59, 60, 61, 62, 63, 64, 65] (by decide +kernel) (by decide +kernel)
set_option maxRecDepth 20000 in
theorem gX5_leaksIn_X5_goesOn : GoodIn wsX5_leaksIn (wsV RX5 177 RX5 yX5_goesOn wsX5_goesOn) := goodIn_app (goodIn_of _ (by decide +kernel)) ggX5_leaksIn_X5_goesOn
set_option maxRecDepth 20000 in
theorem ggX5_leaksIn_X5_backs : GoodIn wsX5_leaksIn wsX5_backs := goodIn_r _ [47, 6, 48, 49, 50, 51, 52, 53, 54, 55, 56, 57, 58, 59, 60, 61, 62, 63, 64, 65] (by decide +kernel) (by decide +kernel)
set_option maxRecDepth 20000 in
theorem gX5_leaksIn_X5_backs : GoodIn wsX5_leaksIn (wsV RX5 181 RX5 yX5_backs wsX5_backs) := goodIn_app (goodIn_of _ (by decide +kernel)) ggX5_leaksIn_X5_backs
theorem dX5_leaksIn_0 : decode cX5_leaksIn 0 = .ok (.aload_n 0, 1) := by decide +kernel
theorem dX5_leaksIn_1 : decode cX5_leaksIn 1 = .ok (.invokevirtual 103, 3) := by decide +kernel
theorem dX5_leaksIn_4 : decode cX5_leaksIn 4 = .ok (.istore_n 3, 1) := by decide +kernel
theorem dX5_leaksIn_5 : decode cX5_leaksIn 5 = .ok (.aload_n 0, 1) := by decide +kernel
theorem dX5_leaksIn_6 : decode cX5_leaksIn 6 = .ok (.iload_n 1, 1) := by decide +kernel
theorem dX5_leaksIn_7 : decode cX5_leaksIn 7 = .ok (.iload_n 2, 1) := by decide +kernel
theorem dX5_leaksIn_8 : decode cX5_leaksIn 8 = .ok (.invokevirtual 177, 3) := by decide +kernel
theorem dX5_leaksIn_11 : decode cX5_leaksIn 11 = .ok (.aload_n 0, 1) := by decide +kernel
theorem dX5_leaksIn_12 : decode cX5_leaksIn 12 = .ok (.invokevirtual 103, 3) := by decide +kernel
theorem dX5_leaksIn_15 : decode cX5_leaksIn 15 = .ok (.iload_n 3, 1) := by decide +kernel
theorem dX5_leaksIn_16 : decode cX5_leaksIn 16 = .ok (.isub, 1) := by decide +kernel
theorem dX5_leaksIn_17 : decode cX5_leaksIn 17 = .ok (.istore 4, 2) := by decide +kernel
theorem dX5_leaksIn_19 : decode cX5_leaksIn 19 = .ok (.aload_n 0, 1) := by decide +kernel
theorem dX5_leaksIn_20 : decode cX5_leaksIn 20 = .ok (.invokevirtual 181, 3) := by decide +kernel
theorem dX5_leaksIn_23 : decode cX5_leaksIn 23 = .ok (.iload 4, 2) := by decide +kernel
theorem dX5_leaksIn_25 : decode cX5_leaksIn 25 = .ok (.ireturn, 1) := by decide +kernel
set_option maxRecDepth 20000 in
theorem ggX5_leaks_X5_in : GoodIn wsX5_leaks wsX5_in := goodIn_r _ [5] (by decide +kernel) (by decide +kernel)
set_option maxRecDepth 20000 in
theorem gX5_leaks_X5_in : GoodIn wsX5_leaks (va_wsS RX5 44 yX5_in wsX5_in) := goodIn_app (goodIn_of _ (by decide +kernel)) ggX5_leaks_X5_in
set_option maxRecDepth 20000 in
theorem ggX5_leaks_X5_isHeat : GoodIn wsX5_leaks wsX5_isHeat := goodIn_r _ [8, 9, 2, 3, 4, 5] (by decide +kernel) (by decide +kernel)
set_option maxRecDepth 20000 in
theorem gX5_leaks_X5_isHeat : GoodIn wsX5_leaks (va_wsS RX5 162 yX5_isHeat wsX5_isHeat) := goodIn_app (goodIn_of _ (by decide +kernel)) ggX5_leaks_X5_isHeat
set_option maxRecDepth 20000 in
theorem ggX5_leaks_X5_asides : GoodIn wsX5_leaks wsX5_asides := goodIn_r _ [13, 14, 15, 65, 66, 67, 68, 69, 70, 71, 72, 73, 74, 75, 76, 77, 78, 79, 80, 81] (by decide +kernel) (by decide +kernel)
set_option maxRecDepth 20000 in
theorem gX5_leaks_X5_asides : GoodIn wsX5_leaks (wsV RX5 174 RX5 yX5_asides wsX5_asides) := goodIn_app (goodIn_of _ (by decide +kernel)) ggX5_leaks_X5_asides
set_option maxRecDepth 20000 in
theorem ggX5_leaks_X5_leaksIn : GoodIn wsX5_leaks wsX5_leaksIn := goodIn_r _ [19, 20, 21, 22, 4, 23, 15, 24, 25, 26, 27, 28, 29, 30, 31, 32, 33, 34, 35, 36, 37, 38, 39, 40, 41, 42, 43, 44, 45, 46, 47, 48, 49, 50, 51, 52, 53, 54, 55, 56, 57, 58, 59, 60, 61, 62, 63, 64, 14, 65, 66, 67, 68, 69, 70, 71, 72, 73, 74, 75, 76, 77, 78, 79, 80, 81] (by decide +kernel) (by decide +kernel)
set_option maxRecDepth 20000 in
theorem gX5_leaks_X5_leaksIn : GoodIn wsX5_leaks (wsV RX5 184 RX5 yX5_leaksIn wsX5_leaksIn) := goodIn_app (goodIn_of _ (by decide +kernel)) ggX5_leaks_X5_leaksIn
theorem dX5_leaks_0 : decode cX5_leaks 0 = .ok (.iload_n 1, 1) := by decide +kernel
theorem dX5_leaks_1 : decode cX5_leaks 1 = .ok (.i2l, 1) := by decide +kernel
theorem dX5_leaks_2 : decode cX5_leaks 2 = .ok (.lconst 0, 1) := by decide +kernel
theorem dX5_leaks_3 : decode cX5_leaks 3 = .ok (.ldc2_w 172, 3) := by decide +kernel
theorem dX5_leaks_6 : decode cX5_leaks 6 = .ok (.invokestatic 44, 3) := by decide +kernel
theorem dX5_leaks_9 : decode cX5_leaks 9 = .ok (.ifCond .eq 10, 3) := by decide +kernel
theorem dX5_leaks_12 : decode cX5_leaks 12 = .ok (.iload_n 2, 1) := by decide +kernel
theorem dX5_leaks_13 : decode cX5_leaks 13 = .ok (.invokestatic 162, 3) := by decide +kernel
theorem dX5_leaks_16 : decode cX5_leaks 16 = .ok (.ifCond .ne 5, 3) := by decide +kernel
theorem dX5_leaks_19 : decode cX5_leaks 19 = .ok (.iconst (-1), 1) := by decide +kernel
theorem dX5_leaks_20 : decode cX5_leaks 20 = .ok (.ireturn, 1) := by decide +kernel
theorem dX5_leaks_21 : decode cX5_leaks 21 = .ok (.aload_n 0, 1) := by decide +kernel
theorem dX5_leaks_22 : decode cX5_leaks 22 = .ok (.invokevirtual 174, 3) := by decide +kernel
theorem dX5_leaks_25 : decode cX5_leaks 25 = .ok (.aload_n 0, 1) := by decide +kernel
theorem dX5_leaks_26 : decode cX5_leaks 26 = .ok (.iload_n 1, 1) := by decide +kernel
theorem dX5_leaks_27 : decode cX5_leaks 27 = .ok (.iload_n 2, 1) := by decide +kernel
theorem dX5_leaks_28 : decode cX5_leaks 28 = .ok (.invokevirtual 184, 3) := by decide +kernel
theorem dX5_leaks_31 : decode cX5_leaks 31 = .ok (.ireturn, 1) := by decide +kernel
set_option maxRecDepth 20000 in
theorem ggX5_out_X5_isThing : GoodIn wsX5_out wsX5_isThing := goodIn_r _ [4, 5, 6, 7, 3, 8] (by decide +kernel) (by decide +kernel)
set_option maxRecDepth 20000 in
theorem gX5_out_X5_isThing : GoodIn wsX5_out (va_wsS RX5 96 yX5_isThing wsX5_isThing) := goodIn_app (goodIn_of _ (by decide +kernel)) ggX5_out_X5_isThing
set_option maxRecDepth 20000 in
theorem ggX5_out_X5_isHeat : GoodIn wsX5_out wsX5_isHeat := goodIn_r _ [11, 12, 6, 7, 3, 8] (by decide +kernel) (by decide +kernel)
set_option maxRecDepth 20000 in
theorem gX5_out_X5_isHeat : GoodIn wsX5_out (va_wsS RX5 162 yX5_isHeat wsX5_isHeat) := goodIn_app (goodIn_of _ (by decide +kernel)) ggX5_out_X5_isHeat
set_option maxRecDepth 20000 in
theorem ggX5_out_X5_asides : GoodIn wsX5_out wsX5_asides := goodIn_r _ [16, 17, 18, 64, 65, 66, 67, 68, 69, 70, 71, 72, 73, 74, 75, 76, 77, 78, 79, 80] (by decide +kernel) (by decide +kernel)
set_option maxRecDepth 20000 in
theorem gX5_out_X5_asides : GoodIn wsX5_out (wsV RX5 174 RX5 yX5_asides wsX5_asides) := goodIn_app (goodIn_of _ (by decide +kernel)) ggX5_out_X5_asides
set_option maxRecDepth 20000 in
theorem ggX5_out_X5_isOut : GoodIn wsX5_out wsX5_isOut := goodIn_r _ [22, 18, 23, 24, 25, 3, 26, 27, 28, 29, 30, 31, 32, 33, 34, 64, 65, 66, 67, 68, 69, 70, 71, 72, 73, 74, 75, 76, 77, 78, 79, 80] (by decide +kernel) (by decide +kernel)
set_option maxRecDepth 20000 in
theorem gX5_out_X5_isOut : GoodIn wsX5_out (wsV RX5 67 RX5 yX5_isOut wsX5_isOut) := goodIn_app (goodIn_of _ (by decide +kernel)) ggX5_out_X5_isOut
set_option maxRecDepth 20000 in
theorem ggX5_out_X5_goesBy : GoodIn wsX5_out wsX5_goesBy := goodIn_r _ [38, 18, 39, 40, 41, 42, 3, 43, 31, 32, 33, 34, 44, 45, 46, 47, 48, 49, 50, 51, 52, 53, 54, 55, 27, 28, 29, 30, 56, 57, 58, 59, 64, 65, 66, 67, 68, 69, 70, 71, 72, 73, 74, 75, 76, 77, 78, 79, 80] (by decide +kernel) (by decide +kernel)
set_option maxRecDepth 20000 in
theorem gX5_out_X5_goesBy : GoodIn wsX5_out (wsV RX5 154 RX5 yX5_goesBy wsX5_goesBy) := goodIn_app (goodIn_of _ (by decide +kernel)) ggX5_out_X5_goesBy
set_option maxRecDepth 20000 in
theorem ggX5_out_X5_backs : GoodIn wsX5_out wsX5_backs := goodIn_r _ [63, 18, 17, 64, 65, 66, 67, 68, 69, 70, 71, 72, 73, 74, 75, 76, 77, 78, 79, 80] (by decide +kernel) (by decide +kernel)
set_option maxRecDepth 20000 in
theorem gX5_out_X5_backs : GoodIn wsX5_out (wsV RX5 181 RX5 yX5_backs wsX5_backs) := goodIn_app (goodIn_of _ (by decide +kernel)) ggX5_out_X5_backs
theorem dX5_out_0 : decode cX5_out 0 = .ok (.iload_n 1, 1) := by decide +kernel
theorem dX5_out_1 : decode cX5_out 1 = .ok (.invokestatic 96, 3) := by decide +kernel
theorem dX5_out_4 : decode cX5_out 4 = .ok (.ifCond .eq 10, 3) := by decide +kernel
theorem dX5_out_7 : decode cX5_out 7 = .ok (.iload_n 2, 1) := by decide +kernel
theorem dX5_out_8 : decode cX5_out 8 = .ok (.invokestatic 162, 3) := by decide +kernel
theorem dX5_out_11 : decode cX5_out 11 = .ok (.ifCond .ne 5, 3) := by decide +kernel
theorem dX5_out_14 : decode cX5_out 14 = .ok (.iconst (-1), 1) := by decide +kernel
theorem dX5_out_15 : decode cX5_out 15 = .ok (.ireturn, 1) := by decide +kernel
theorem dX5_out_16 : decode cX5_out 16 = .ok (.aload_n 0, 1) := by decide +kernel
theorem dX5_out_17 : decode cX5_out 17 = .ok (.invokevirtual 174, 3) := by decide +kernel
theorem dX5_out_20 : decode cX5_out 20 = .ok (.iconst 0, 1) := by decide +kernel
theorem dX5_out_21 : decode cX5_out 21 = .ok (.istore_n 3, 1) := by decide +kernel
theorem dX5_out_22 : decode cX5_out 22 = .ok (.iload_n 3, 1) := by decide +kernel
theorem dX5_out_23 : decode cX5_out 23 = .ok (.bipush 61, 2) := by decide +kernel
theorem dX5_out_25 : decode cX5_out 25 = .ok (.if_icmp .ge 22, 3) := by decide +kernel
theorem dX5_out_28 : decode cX5_out 28 = .ok (.aload_n 0, 1) := by decide +kernel
theorem dX5_out_29 : decode cX5_out 29 = .ok (.iload_n 1, 1) := by decide +kernel
theorem dX5_out_30 : decode cX5_out 30 = .ok (.invokevirtual 67, 3) := by decide +kernel
theorem dX5_out_33 : decode cX5_out 33 = .ok (.ifCond .ne 14, 3) := by decide +kernel
theorem dX5_out_36 : decode cX5_out 36 = .ok (.aload_n 0, 1) := by decide +kernel
theorem dX5_out_37 : decode cX5_out 37 = .ok (.iload_n 2, 1) := by decide +kernel
theorem dX5_out_38 : decode cX5_out 38 = .ok (.invokevirtual 154, 3) := by decide +kernel
theorem dX5_out_41 : decode cX5_out 41 = .ok (.iinc 3 1, 3) := by decide +kernel
theorem dX5_out_44 : decode cX5_out 44 = .ok (.goto (-22), 3) := by decide +kernel
theorem dX5_out_47 : decode cX5_out 47 = .ok (.aload_n 0, 1) := by decide +kernel
theorem dX5_out_48 : decode cX5_out 48 = .ok (.invokevirtual 181, 3) := by decide +kernel
theorem dX5_out_51 : decode cX5_out 51 = .ok (.iload_n 3, 1) := by decide +kernel
theorem dX5_out_52 : decode cX5_out 52 = .ok (.bipush 60, 2) := by decide +kernel
theorem dX5_out_54 : decode cX5_out 54 = .ok (.if_icmp .le 8, 3) := by decide +kernel
theorem dX5_out_57 : decode cX5_out 57 = .ok (.bipush (-4), 2) := by decide +kernel
theorem dX5_out_59 : decode cX5_out 59 = .ok (.goto 4, 3) := by decide +kernel
theorem dX5_out_62 : decode cX5_out 62 = .ok (.iload_n 3, 1) := by decide +kernel
theorem dX5_out_63 : decode cX5_out 63 = .ok (.ireturn, 1) := by decide +kernel
set_option maxRecDepth 20000 in
theorem ggX5_cool_X5_in : GoodIn wsX5_cool wsX5_in := goodIn_r _ [5] (by decide +kernel) (by decide +kernel)
set_option maxRecDepth 20000 in
theorem gX5_cool_X5_in : GoodIn wsX5_cool (va_wsS RX5 44 yX5_in wsX5_in) := goodIn_app (goodIn_of _ (by decide +kernel)) ggX5_cool_X5_in
set_option maxRecDepth 20000 in
theorem ggX5_cool_X5_asides : GoodIn wsX5_cool wsX5_asides := goodIn_r _ [9, 10, 11, 61, 62, 63, 64, 65, 66, 67, 68, 69, 70, 71, 72, 73, 74, 75, 76, 77] (by decide +kernel) (by decide +kernel)
set_option maxRecDepth 20000 in
theorem gX5_cool_X5_asides : GoodIn wsX5_cool (wsV RX5 174 RX5 yX5_asides wsX5_asides) := goodIn_app (goodIn_of _ (by decide +kernel)) ggX5_cool_X5_asides
set_option maxRecDepth 20000 in
theorem ggX5_cool_X5_leaksIn : GoodIn wsX5_cool wsX5_leaksIn := goodIn_r _ [15, 16, 17, 18, 4, 19, 11, 20, 21, 22, 23, 24, 25, 26, 27, 28, 29, 30, 31, 32, 33, 34, 35, 36, 37, 38, 39, 40, 41, 42, 43, 44, 45, 46, 47, 48, 49, 50, 51, 52, 53, 54, 55, 56, 57, 58, 59, 60, 10, 61, 62, 63, 64, 65, 66, 67, 68, 69, 70, 71, 72, 73, 74, 75, 76, 77] (by decide +kernel) (by decide +kernel)
set_option maxRecDepth 20000 in
theorem gX5_cool_X5_leaksIn : GoodIn wsX5_cool (wsV RX5 184 RX5 yX5_leaksIn wsX5_leaksIn) := goodIn_app (goodIn_of _ (by decide +kernel)) ggX5_cool_X5_leaksIn
theorem dX5_cool_0 : decode cX5_cool 0 = .ok (.iload_n 1, 1) := by decide +kernel
theorem dX5_cool_1 : decode cX5_cool 1 = .ok (.i2l, 1) := by decide +kernel
theorem dX5_cool_2 : decode cX5_cool 2 = .ok (.lconst 1, 1) := by decide +kernel
theorem dX5_cool_3 : decode cX5_cool 3 = .ok (.ldc2_w 101, 3) := by decide +kernel
theorem dX5_cool_6 : decode cX5_cool 6 = .ok (.invokestatic 44, 3) := by decide +kernel
theorem dX5_cool_9 : decode cX5_cool 9 = .ok (.ifCond .ne 5, 3) := by decide +kernel
theorem dX5_cool_12 : decode cX5_cool 12 = .ok (.iconst (-1), 1) := by decide +kernel
theorem dX5_cool_13 : decode cX5_cool 13 = .ok (.ireturn, 1) := by decide +kernel
theorem dX5_cool_14 : decode cX5_cool 14 = .ok (.aload_n 0, 1) := by decide +kernel
theorem dX5_cool_15 : decode cX5_cool 15 = .ok (.invokevirtual 174, 3) := by decide +kernel
theorem dX5_cool_18 : decode cX5_cool 18 = .ok (.bipush 9, 2) := by decide +kernel
theorem dX5_cool_20 : decode cX5_cool 20 = .ok (.istore_n 2, 1) := by decide +kernel
theorem dX5_cool_21 : decode cX5_cool 21 = .ok (.iload_n 2, 1) := by decide +kernel
theorem dX5_cool_22 : decode cX5_cool 22 = .ok (.ifCond .lt 20, 3) := by decide +kernel
theorem dX5_cool_25 : decode cX5_cool 25 = .ok (.aload_n 0, 1) := by decide +kernel
theorem dX5_cool_26 : decode cX5_cool 26 = .ok (.iload_n 1, 1) := by decide +kernel
theorem dX5_cool_27 : decode cX5_cool 27 = .ok (.iload_n 2, 1) := by decide +kernel
theorem dX5_cool_28 : decode cX5_cool 28 = .ok (.invokevirtual 184, 3) := by decide +kernel
theorem dX5_cool_31 : decode cX5_cool 31 = .ok (.ifCond .ne 5, 3) := by decide +kernel
theorem dX5_cool_34 : decode cX5_cool 34 = .ok (.iload_n 2, 1) := by decide +kernel
theorem dX5_cool_35 : decode cX5_cool 35 = .ok (.ireturn, 1) := by decide +kernel
theorem dX5_cool_36 : decode cX5_cool 36 = .ok (.iinc 2 (-1), 3) := by decide +kernel
theorem dX5_cool_39 : decode cX5_cool 39 = .ok (.goto (-18), 3) := by decide +kernel
theorem dX5_cool_42 : decode cX5_cool 42 = .ok (.bipush (-4), 2) := by decide +kernel
theorem dX5_cool_44 : decode cX5_cool 44 = .ok (.ireturn, 1) := by decide +kernel
set_option maxRecDepth 20000 in
theorem ggX5_thick_X5_in : GoodIn wsX5_thick wsX5_in := goodIn_r _ [6] (by decide +kernel) (by decide +kernel)
set_option maxRecDepth 20000 in
theorem gX5_thick_X5_in : GoodIn wsX5_thick (va_wsS RX5 44 yX5_in wsX5_in) := goodIn_app (goodIn_of _ (by decide +kernel)) ggX5_thick_X5_in
set_option maxRecDepth 20000 in
theorem ggX5_thick_X5_isHeat : GoodIn wsX5_thick wsX5_isHeat := goodIn_r _ [9, 10, 3, 4, 5, 6] (by decide +kernel) (by decide +kernel)
set_option maxRecDepth 20000 in
theorem gX5_thick_X5_isHeat : GoodIn wsX5_thick (va_wsS RX5 162 yX5_isHeat wsX5_isHeat) := goodIn_app (goodIn_of _ (by decide +kernel)) ggX5_thick_X5_isHeat
set_option maxRecDepth 20000 in
theorem ggX5_thick_X5_asides : GoodIn wsX5_thick wsX5_asides := goodIn_r _ [14, 15, 2, 65, 66, 67, 68, 69, 70, 71, 72, 73, 74, 75, 76, 77, 78, 79, 80, 81] (by decide +kernel) (by decide +kernel)
set_option maxRecDepth 20000 in
theorem gX5_thick_X5_asides : GoodIn wsX5_thick (wsV RX5 174 RX5 yX5_asides wsX5_asides) := goodIn_app (goodIn_of _ (by decide +kernel)) ggX5_thick_X5_asides
set_option maxRecDepth 20000 in
theorem ggX5_thick_X5_renews : GoodIn wsX5_thick wsX5_renews := goodIn_r _ [19, 2, 65, 66, 67, 68, 69, 70, 71, 72, 73, 74, 75, 76, 77, 78, 79, 80, 81] (by decide +kernel) (by decide +kernel)
set_option maxRecDepth 20000 in
theorem gX5_thick_X5_renews : GoodIn wsX5_thick (wsV RX5 151 RX5 yX5_renews wsX5_renews) := goodIn_app (goodIn_of _ (by decide +kernel)) ggX5_thick_X5_renews
set_option maxRecDepth 20000 in
theorem ggX5_thick_X5_leaksIn : GoodIn wsX5_thick wsX5_leaksIn := goodIn_r _ [23, 24, 25, 26, 5, 27, 2, 28, 29, 30, 31, 32, 33, 34, 35, 36, 37, 38, 39, 40, 41, 42, 43, 44, 45, 46, 47, 48, 49, 50, 51, 52, 53, 54, 55, 56, 57, 58, 59, 60, 16, 17, 18, 19, 61, 62, 63, 64, 15, 65, 66, 67, 68, 69, 70, 71, 72, 73, 74, 75, 76, 77, 78, 79, 80, 81] (by decide +kernel) (by decide +kernel)
set_option maxRecDepth 20000 in
theorem gX5_thick_X5_leaksIn : GoodIn wsX5_thick (wsV RX5 184 RX5 yX5_leaksIn wsX5_leaksIn) := goodIn_app (goodIn_of _ (by decide +kernel)) ggX5_thick_X5_leaksIn
