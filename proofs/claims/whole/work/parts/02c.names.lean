theorem dX3_readPersons_76 : decode cX3_readPersons 76 = .ok (.aload_n 0, 1) := by decide +kernel
theorem dX3_readPersons_77 : decode cX3_readPersons 77 = .ok (.invokevirtual 45, 3) := by decide +kernel
theorem dX3_readPersons_80 : decode cX3_readPersons 80 = .ok (.ireturn, 1) := by decide +kernel
theorem dX3_readPersons_81 : decode cX3_readPersons 81 = .ok (.aload_n 0, 1) := by decide +kernel
theorem dX3_readPersons_82 : decode cX3_readPersons 82 = .ok (.dup, 1) := by decide +kernel
theorem dX3_readPersons_83 : decode cX3_readPersons 83 = .ok (.getfield 19, 3) := by decide +kernel
theorem dX3_readPersons_86 : decode cX3_readPersons 86 = .ok (.iconst 1, 1) := by decide +kernel
theorem dX3_readPersons_87 : decode cX3_readPersons 87 = .ok (.iadd, 1) := by decide +kernel
theorem dX3_readPersons_88 : decode cX3_readPersons 88 = .ok (.putfield 19, 3) := by decide +kernel
theorem dX3_readPersons_91 : decode cX3_readPersons 91 = .ok (.iinc 2 1, 3) := by decide +kernel
theorem dX3_readPersons_94 : decode cX3_readPersons 94 = .ok (.goto (-92), 3) := by decide +kernel
theorem dX3_readPersons_97 : decode cX3_readPersons 97 = .ok (.aload_n 0, 1) := by decide +kernel
theorem dX3_readPersons_98 : decode cX3_readPersons 98 = .ok (.invokevirtual 45, 3) := by decide +kernel
theorem dX3_readPersons_101 : decode cX3_readPersons 101 = .ok (.ireturn, 1) := by decide +kernel
set_option maxRecDepth 20000 in
theorem ggX3_readThings_X3_peek : GoodIn wsX3_readThings wsX3_peek := goodIn_r _ [6, 1, 7, 8, 32, 33, 34] (by decide +kernel) (by decide +kernel)
set_option maxRecDepth 20000 in
theorem gX3_readThings_X3_peek : GoodIn wsX3_readThings (wsV RX3 34 RX3 yX3_peek wsX3_peek) := goodIn_app (goodIn_of _ (by decide +kernel)) ggX3_readThings_X3_peek
set_option maxRecDepth 20000 in
theorem ggX3_readThings_X4_within : GoodIn wsX3_readThings wsX4_within := goodIn_r _ [11] (by decide +kernel) (by decide +kernel)
set_option maxRecDepth 20000 in
theorem gX3_readThings_X4_within_n41 : GoodIn wsX3_readThings (wsX4_within) := ggX3_readThings_X4_within
set_option maxRecDepth 20000 in
theorem ggX3_readThings_X0_learn : GoodIn wsX3_readThings wsX0_learn := goodIn_r _ [15, 16, 17, 18, 19, 20, 10, 21, 22, 23, 24, 25, 26, 27, 28, 29, 30, 31] (by decide +kernel) (by decide +kernel)
set_option maxRecDepth 20000 in
theorem gX3_readThings_X0_learn_n69 : GoodIn wsX3_readThings (wsX0_learn) := ggX3_readThings_X0_learn
theorem dX3_readThings_0 : decode cX3_readThings 0 = .ok (.iconst 0, 1) := by decide +kernel
theorem dX3_readThings_1 : decode cX3_readThings 1 = .ok (.istore_n 3, 1) := by decide +kernel
theorem dX3_readThings_2 : decode cX3_readThings 2 = .ok (.iconst 0, 1) := by decide +kernel
theorem dX3_readThings_3 : decode cX3_readThings 3 = .ok (.istore 4, 2) := by decide +kernel
theorem dX3_readThings_5 : decode cX3_readThings 5 = .ok (.iload 4, 2) := by decide +kernel
theorem dX3_readThings_7 : decode cX3_readThings 7 = .ok (.bipush 8, 2) := by decide +kernel
theorem dX3_readThings_9 : decode cX3_readThings 9 = .ok (.if_icmp .ge 60, 3) := by decide +kernel
theorem dX3_readThings_12 : decode cX3_readThings 12 = .ok (.aload_n 0, 1) := by decide +kernel
theorem dX3_readThings_13 : decode cX3_readThings 13 = .ok (.invokevirtual 34, 3) := by decide +kernel
theorem dX3_readThings_16 : decode cX3_readThings 16 = .ok (.bipush 48, 2) := by decide +kernel
theorem dX3_readThings_18 : decode cX3_readThings 18 = .ok (.isub, 1) := by decide +kernel
theorem dX3_readThings_19 : decode cX3_readThings 19 = .ok (.iload_n 3, 1) := by decide +kernel
theorem dX3_readThings_20 : decode cX3_readThings 20 = .ok (.bipush 7, 2) := by decide +kernel
theorem dX3_readThings_22 : decode cX3_readThings 22 = .ok (.invokestatic 41, 3) := by decide +kernel
theorem dX3_readThings_25 : decode cX3_readThings 25 = .ok (.ifCond .eq 44, 3) := by decide +kernel
theorem dX3_readThings_28 : decode cX3_readThings 28 = .ok (.aload_n 0, 1) := by decide +kernel
theorem dX3_readThings_29 : decode cX3_readThings 29 = .ok (.invokevirtual 34, 3) := by decide +kernel
theorem dX3_readThings_32 : decode cX3_readThings 32 = .ok (.bipush 48, 2) := by decide +kernel
theorem dX3_readThings_34 : decode cX3_readThings 34 = .ok (.isub, 1) := by decide +kernel
theorem dX3_readThings_35 : decode cX3_readThings 35 = .ok (.istore 5, 2) := by decide +kernel
theorem dX3_readThings_37 : decode cX3_readThings 37 = .ok (.aload_n 1, 1) := by decide +kernel
theorem dX3_readThings_38 : decode cX3_readThings 38 = .ok (.iload_n 2, 1) := by decide +kernel
theorem dX3_readThings_39 : decode cX3_readThings 39 = .ok (.iload 5, 2) := by decide +kernel
theorem dX3_readThings_41 : decode cX3_readThings 41 = .ok (.aload_n 1, 1) := by decide +kernel
theorem dX3_readThings_42 : decode cX3_readThings 42 = .ok (.getfield 38, 3) := by decide +kernel
theorem dX3_readThings_45 : decode cX3_readThings 45 = .ok (.invokevirtual 69, 3) := by decide +kernel
theorem dX3_readThings_48 : decode cX3_readThings 48 = .ok (.iload 5, 2) := by decide +kernel
theorem dX3_readThings_50 : decode cX3_readThings 50 = .ok (.iconst 1, 1) := by decide +kernel
theorem dX3_readThings_51 : decode cX3_readThings 51 = .ok (.iadd, 1) := by decide +kernel
theorem dX3_readThings_52 : decode cX3_readThings 52 = .ok (.istore_n 3, 1) := by decide +kernel
theorem dX3_readThings_53 : decode cX3_readThings 53 = .ok (.aload_n 0, 1) := by decide +kernel
theorem dX3_readThings_54 : decode cX3_readThings 54 = .ok (.dup, 1) := by decide +kernel
theorem dX3_readThings_55 : decode cX3_readThings 55 = .ok (.getfield 19, 3) := by decide +kernel
theorem dX3_readThings_58 : decode cX3_readThings 58 = .ok (.iconst 1, 1) := by decide +kernel
theorem dX3_readThings_59 : decode cX3_readThings 59 = .ok (.iadd, 1) := by decide +kernel
theorem dX3_readThings_60 : decode cX3_readThings 60 = .ok (.putfield 19, 3) := by decide +kernel
theorem dX3_readThings_63 : decode cX3_readThings 63 = .ok (.iinc 4 1, 3) := by decide +kernel
theorem dX3_readThings_66 : decode cX3_readThings 66 = .ok (.goto (-61), 3) := by decide +kernel
theorem dX3_readThings_69 : decode cX3_readThings 69 = .ok (.return_, 1) := by decide +kernel
set_option maxRecDepth 20000 in
theorem ggX3_readNumber_X4_within : GoodIn wsX3_readNumber wsX4_within := goodIn_r _ [10] (by decide +kernel) (by decide +kernel)
set_option maxRecDepth 20000 in
theorem gX3_readNumber_X4_within_n41 : GoodIn wsX3_readNumber (wsX4_within) := ggX3_readNumber_X4_within
theorem dX3_readNumber_0 : decode cX3_readNumber 0 = .ok (.iconst (-1), 1) := by decide +kernel
theorem dX3_readNumber_1 : decode cX3_readNumber 1 = .ok (.istore_n 1, 1) := by decide +kernel
theorem dX3_readNumber_2 : decode cX3_readNumber 2 = .ok (.iconst 0, 1) := by decide +kernel
theorem dX3_readNumber_3 : decode cX3_readNumber 3 = .ok (.istore_n 2, 1) := by decide +kernel
theorem dX3_readNumber_4 : decode cX3_readNumber 4 = .ok (.iload_n 2, 1) := by decide +kernel
theorem dX3_readNumber_5 : decode cX3_readNumber 5 = .ok (.iconst 2, 1) := by decide +kernel
theorem dX3_readNumber_6 : decode cX3_readNumber 6 = .ok (.if_icmp .ge 71, 3) := by decide +kernel
theorem dX3_readNumber_9 : decode cX3_readNumber 9 = .ok (.aload_n 0, 1) := by decide +kernel
theorem dX3_readNumber_10 : decode cX3_readNumber 10 = .ok (.getfield 19, 3) := by decide +kernel
theorem dX3_readNumber_13 : decode cX3_readNumber 13 = .ok (.aload_n 0, 1) := by decide +kernel
theorem dX3_readNumber_14 : decode cX3_readNumber 14 = .ok (.getfield 15, 3) := by decide +kernel
theorem dX3_readNumber_17 : decode cX3_readNumber 17 = .ok (.if_icmp .ge 60, 3) := by decide +kernel
theorem dX3_readNumber_20 : decode cX3_readNumber 20 = .ok (.aload_n 0, 1) := by decide +kernel
theorem dX3_readNumber_21 : decode cX3_readNumber 21 = .ok (.getfield 9, 3) := by decide +kernel
theorem dX3_readNumber_24 : decode cX3_readNumber 24 = .ok (.aload_n 0, 1) := by decide +kernel
theorem dX3_readNumber_25 : decode cX3_readNumber 25 = .ok (.getfield 19, 3) := by decide +kernel
theorem dX3_readNumber_28 : decode cX3_readNumber 28 = .ok (.iaload, 1) := by decide +kernel
theorem dX3_readNumber_29 : decode cX3_readNumber 29 = .ok (.bipush 48, 2) := by decide +kernel
theorem dX3_readNumber_31 : decode cX3_readNumber 31 = .ok (.bipush 57, 2) := by decide +kernel
theorem dX3_readNumber_33 : decode cX3_readNumber 33 = .ok (.invokestatic 41, 3) := by decide +kernel
theorem dX3_readNumber_36 : decode cX3_readNumber 36 = .ok (.ifCond .eq 41, 3) := by decide +kernel
theorem dX3_readNumber_39 : decode cX3_readNumber 39 = .ok (.iload_n 1, 1) := by decide +kernel
theorem dX3_readNumber_40 : decode cX3_readNumber 40 = .ok (.iconst 0, 1) := by decide +kernel
theorem dX3_readNumber_41 : decode cX3_readNumber 41 = .ok (.invokestatic 73, 3) := by decide +kernel
theorem dX3_readNumber_44 : decode cX3_readNumber 44 = .ok (.bipush 10, 2) := by decide +kernel
theorem dX3_readNumber_46 : decode cX3_readNumber 46 = .ok (.imul, 1) := by decide +kernel
theorem dX3_readNumber_47 : decode cX3_readNumber 47 = .ok (.aload_n 0, 1) := by decide +kernel
theorem dX3_readNumber_48 : decode cX3_readNumber 48 = .ok (.getfield 9, 3) := by decide +kernel
theorem dX3_readNumber_51 : decode cX3_readNumber 51 = .ok (.aload_n 0, 1) := by decide +kernel
theorem dX3_readNumber_52 : decode cX3_readNumber 52 = .ok (.getfield 19, 3) := by decide +kernel
theorem dX3_readNumber_55 : decode cX3_readNumber 55 = .ok (.iaload, 1) := by decide +kernel
theorem dX3_readNumber_56 : decode cX3_readNumber 56 = .ok (.iadd, 1) := by decide +kernel
theorem dX3_readNumber_57 : decode cX3_readNumber 57 = .ok (.bipush 48, 2) := by decide +kernel
theorem dX3_readNumber_59 : decode cX3_readNumber 59 = .ok (.isub, 1) := by decide +kernel
theorem dX3_readNumber_60 : decode cX3_readNumber 60 = .ok (.istore_n 1, 1) := by decide +kernel
theorem dX3_readNumber_61 : decode cX3_readNumber 61 = .ok (.aload_n 0, 1) := by decide +kernel
theorem dX3_readNumber_62 : decode cX3_readNumber 62 = .ok (.dup, 1) := by decide +kernel
theorem dX3_readNumber_63 : decode cX3_readNumber 63 = .ok (.getfield 19, 3) := by decide +kernel
theorem dX3_readNumber_66 : decode cX3_readNumber 66 = .ok (.iconst 1, 1) := by decide +kernel
theorem dX3_readNumber_67 : decode cX3_readNumber 67 = .ok (.iadd, 1) := by decide +kernel
theorem dX3_readNumber_68 : decode cX3_readNumber 68 = .ok (.putfield 19, 3) := by decide +kernel
theorem dX3_readNumber_71 : decode cX3_readNumber 71 = .ok (.iinc 2 1, 3) := by decide +kernel
theorem dX3_readNumber_74 : decode cX3_readNumber 74 = .ok (.goto (-70), 3) := by decide +kernel
theorem dX3_readNumber_77 : decode cX3_readNumber 77 = .ok (.iload_n 1, 1) := by decide +kernel
theorem dX3_readNumber_78 : decode cX3_readNumber 78 = .ok (.ireturn, 1) := by decide +kernel
theorem dX3_peek_0 : decode cX3_peek 0 = .ok (.aload_n 0, 1) := by decide +kernel
theorem dX3_peek_1 : decode cX3_peek 1 = .ok (.getfield 19, 3) := by decide +kernel
theorem dX3_peek_4 : decode cX3_peek 4 = .ok (.aload_n 0, 1) := by decide +kernel
theorem dX3_peek_5 : decode cX3_peek 5 = .ok (.getfield 15, 3) := by decide +kernel
theorem dX3_peek_8 : decode cX3_peek 8 = .ok (.if_icmp .ge 30, 3) := by decide +kernel
theorem dX3_peek_11 : decode cX3_peek 11 = .ok (.aload_n 0, 1) := by decide +kernel
theorem dX3_peek_12 : decode cX3_peek 12 = .ok (.getfield 9, 3) := by decide +kernel
theorem dX3_peek_15 : decode cX3_peek 15 = .ok (.aload_n 0, 1) := by decide +kernel
theorem dX3_peek_16 : decode cX3_peek 16 = .ok (.getfield 19, 3) := by decide +kernel
theorem dX3_peek_19 : decode cX3_peek 19 = .ok (.iaload, 1) := by decide +kernel
theorem dX3_peek_20 : decode cX3_peek 20 = .ok (.bipush 32, 2) := by decide +kernel
theorem dX3_peek_22 : decode cX3_peek 22 = .ok (.if_icmp .ne 16, 3) := by decide +kernel
theorem dX3_peek_25 : decode cX3_peek 25 = .ok (.aload_n 0, 1) := by decide +kernel
theorem dX3_peek_26 : decode cX3_peek 26 = .ok (.dup, 1) := by decide +kernel
theorem dX3_peek_27 : decode cX3_peek 27 = .ok (.getfield 19, 3) := by decide +kernel
theorem dX3_peek_30 : decode cX3_peek 30 = .ok (.iconst 1, 1) := by decide +kernel
theorem dX3_peek_31 : decode cX3_peek 31 = .ok (.iadd, 1) := by decide +kernel
theorem dX3_peek_32 : decode cX3_peek 32 = .ok (.putfield 19, 3) := by decide +kernel
theorem dX3_peek_35 : decode cX3_peek 35 = .ok (.goto (-35), 3) := by decide +kernel
theorem dX3_peek_38 : decode cX3_peek 38 = .ok (.aload_n 0, 1) := by decide +kernel
theorem dX3_peek_39 : decode cX3_peek 39 = .ok (.getfield 19, 3) := by decide +kernel
theorem dX3_peek_42 : decode cX3_peek 42 = .ok (.aload_n 0, 1) := by decide +kernel
theorem dX3_peek_43 : decode cX3_peek 43 = .ok (.getfield 15, 3) := by decide +kernel
theorem dX3_peek_46 : decode cX3_peek 46 = .ok (.if_icmp .ge 15, 3) := by decide +kernel
theorem dX3_peek_49 : decode cX3_peek 49 = .ok (.aload_n 0, 1) := by decide +kernel
theorem dX3_peek_50 : decode cX3_peek 50 = .ok (.getfield 9, 3) := by decide +kernel
theorem dX3_peek_53 : decode cX3_peek 53 = .ok (.aload_n 0, 1) := by decide +kernel
theorem dX3_peek_54 : decode cX3_peek 54 = .ok (.getfield 19, 3) := by decide +kernel
theorem dX3_peek_57 : decode cX3_peek 57 = .ok (.iaload, 1) := by decide +kernel
theorem dX3_peek_58 : decode cX3_peek 58 = .ok (.goto 4, 3) := by decide +kernel
theorem dX3_peek_61 : decode cX3_peek 61 = .ok (.iconst 0, 1) := by decide +kernel
theorem dX3_peek_62 : decode cX3_peek 62 = .ok (.ireturn, 1) := by decide +kernel
theorem dX3_faultHere_0 : decode cX3_faultHere 0 = .ok (.bipush (-20), 2) := by decide +kernel
theorem dX3_faultHere_2 : decode cX3_faultHere 2 = .ok (.aload_n 0, 1) := by decide +kernel
theorem dX3_faultHere_3 : decode cX3_faultHere 3 = .ok (.getfield 19, 3) := by decide +kernel
theorem dX3_faultHere_6 : decode cX3_faultHere 6 = .ok (.isub, 1) := by decide +kernel
theorem dX3_faultHere_7 : decode cX3_faultHere 7 = .ok (.ireturn, 1) := by decide +kernel
set_option maxRecDepth 20000 in
theorem ggX4_init_X0_init : GoodIn wsX4_init wsX0_init := goodIn_r _ [27, 28, 2, 3, 15, 29, 30, 31, 32, 33, 34, 35, 36, 37, 54, 55, 56, 57, 58, 59, 60, 61, 62, 63] (by decide +kernel) (by decide +kernel)
set_option maxRecDepth 20000 in
theorem gX4_init_X0_init_n9 : GoodIn wsX4_init (wsX0_init) := ggX4_init_X0_init
set_option maxRecDepth 20000 in
theorem ggX4_init_X1_init : GoodIn wsX4_init wsX1_init := goodIn_r _ [39, 40, 2, 3, 31, 41, 42, 15, 43, 44, 74, 75, 76, 77, 78, 79] (by decide +kernel) (by decide +kernel)
set_option maxRecDepth 20000 in
theorem gX4_init_X1_init_n18 : GoodIn wsX4_init (wsX1_init) := ggX4_init_X1_init
set_option maxRecDepth 20000 in
theorem ggX4_init_X3_init : GoodIn wsX4_init wsX3_init := goodIn_r _ [46, 47, 2, 3, 15, 48, 80, 81, 82] (by decide +kernel) (by decide +kernel)
set_option maxRecDepth 20000 in
theorem gX4_init_X3_init_n41 : GoodIn wsX4_init (wsX3_init) := ggX4_init_X3_init
set_option maxRecDepth 20000 in
theorem ggX4_init_X2_init : GoodIn wsX4_init wsX2_init := goodIn_r _ [50, 51, 2, 3, 31, 52, 53, 83, 84, 85] (by decide +kernel) (by decide +kernel)
set_option maxRecDepth 20000 in
theorem gX4_init_X2_init_n52 : GoodIn wsX4_init (wsX2_init) := ggX4_init_X2_init
theorem dX4_init_0 : decode cX4_init 0 = .ok (.aload_n 0, 1) := by decide +kernel
theorem dX4_init_1 : decode cX4_init 1 = .ok (.invokespecial 1, 3) := by decide +kernel
theorem dX4_init_4 : decode cX4_init 4 = .ok (.aload_n 0, 1) := by decide +kernel
theorem dX4_init_5 : decode cX4_init 5 = .ok (.new 7, 3) := by decide +kernel
theorem dX4_init_8 : decode cX4_init 8 = .ok (.dup, 1) := by decide +kernel
theorem dX4_init_9 : decode cX4_init 9 = .ok (.invokespecial 9, 3) := by decide +kernel
theorem dX4_init_12 : decode cX4_init 12 = .ok (.putfield 10, 3) := by decide +kernel
theorem dX4_init_15 : decode cX4_init 15 = .ok (.aload_n 0, 1) := by decide +kernel
theorem dX4_init_16 : decode cX4_init 16 = .ok (.new 16, 3) := by decide +kernel
theorem dX4_init_19 : decode cX4_init 19 = .ok (.dup, 1) := by decide +kernel
theorem dX4_init_20 : decode cX4_init 20 = .ok (.invokespecial 18, 3) := by decide +kernel
theorem dX4_init_23 : decode cX4_init 23 = .ok (.putfield 19, 3) := by decide +kernel
theorem dX4_init_26 : decode cX4_init 26 = .ok (.aload_n 0, 1) := by decide +kernel
theorem dX4_init_27 : decode cX4_init 27 = .ok (.new 7, 3) := by decide +kernel
theorem dX4_init_30 : decode cX4_init 30 = .ok (.dup, 1) := by decide +kernel
theorem dX4_init_31 : decode cX4_init 31 = .ok (.invokespecial 9, 3) := by decide +kernel
theorem dX4_init_34 : decode cX4_init 34 = .ok (.putfield 23, 3) := by decide +kernel
theorem dX4_init_37 : decode cX4_init 37 = .ok (.aload_n 0, 1) := by decide +kernel
theorem dX4_init_38 : decode cX4_init 38 = .ok (.new 16, 3) := by decide +kernel
theorem dX4_init_41 : decode cX4_init 41 = .ok (.dup, 1) := by decide +kernel
theorem dX4_init_42 : decode cX4_init 42 = .ok (.invokespecial 18, 3) := by decide +kernel
theorem dX4_init_45 : decode cX4_init 45 = .ok (.putfield 26, 3) := by decide +kernel
theorem dX4_init_48 : decode cX4_init 48 = .ok (.aload_n 0, 1) := by decide +kernel
theorem dX4_init_49 : decode cX4_init 49 = .ok (.new 7, 3) := by decide +kernel
theorem dX4_init_52 : decode cX4_init 52 = .ok (.dup, 1) := by decide +kernel
theorem dX4_init_53 : decode cX4_init 53 = .ok (.invokespecial 9, 3) := by decide +kernel
theorem dX4_init_56 : decode cX4_init 56 = .ok (.putfield 29, 3) := by decide +kernel
theorem dX4_init_59 : decode cX4_init 59 = .ok (.aload_n 0, 1) := by decide +kernel
theorem dX4_init_60 : decode cX4_init 60 = .ok (.bipush 6, 2) := by decide +kernel
theorem dX4_init_62 : decode cX4_init 62 = .ok (.newarray .int, 2) := by decide +kernel
theorem dX4_init_64 : decode cX4_init 64 = .ok (.putfield 32, 3) := by decide +kernel
theorem dX4_init_67 : decode cX4_init 67 = .ok (.aload_n 0, 1) := by decide +kernel
theorem dX4_init_68 : decode cX4_init 68 = .ok (.bipush 6, 2) := by decide +kernel
theorem dX4_init_70 : decode cX4_init 70 = .ok (.newarray .int, 2) := by decide +kernel
theorem dX4_init_72 : decode cX4_init 72 = .ok (.putfield 36, 3) := by decide +kernel
theorem dX4_init_75 : decode cX4_init 75 = .ok (.aload_n 0, 1) := by decide +kernel
theorem dX4_init_76 : decode cX4_init 76 = .ok (.new 39, 3) := by decide +kernel
theorem dX4_init_79 : decode cX4_init 79 = .ok (.dup, 1) := by decide +kernel
theorem dX4_init_80 : decode cX4_init 80 = .ok (.invokespecial 41, 3) := by decide +kernel
theorem dX4_init_83 : decode cX4_init 83 = .ok (.putfield 42, 3) := by decide +kernel
theorem dX4_init_86 : decode cX4_init 86 = .ok (.aload_n 0, 1) := by decide +kernel
theorem dX4_init_87 : decode cX4_init 87 = .ok (.iconst 4, 1) := by decide +kernel
theorem dX4_init_88 : decode cX4_init 88 = .ok (.anewarray 46, 3) := by decide +kernel
theorem dX4_init_91 : decode cX4_init 91 = .ok (.putfield 48, 3) := by decide +kernel
theorem dX4_init_94 : decode cX4_init 94 = .ok (.iconst 0, 1) := by decide +kernel
theorem dX4_init_95 : decode cX4_init 95 = .ok (.istore_n 1, 1) := by decide +kernel
theorem dX4_init_96 : decode cX4_init 96 = .ok (.iload_n 1, 1) := by decide +kernel
theorem dX4_init_97 : decode cX4_init 97 = .ok (.iconst 4, 1) := by decide +kernel
theorem dX4_init_98 : decode cX4_init 98 = .ok (.if_icmp .ge 22, 3) := by decide +kernel
theorem dX4_init_101 : decode cX4_init 101 = .ok (.aload_n 0, 1) := by decide +kernel
theorem dX4_init_102 : decode cX4_init 102 = .ok (.getfield 48, 3) := by decide +kernel
theorem dX4_init_105 : decode cX4_init 105 = .ok (.iload_n 1, 1) := by decide +kernel
theorem dX4_init_106 : decode cX4_init 106 = .ok (.new 46, 3) := by decide +kernel
theorem dX4_init_109 : decode cX4_init 109 = .ok (.dup, 1) := by decide +kernel
theorem dX4_init_110 : decode cX4_init 110 = .ok (.invokespecial 52, 3) := by decide +kernel
theorem dX4_init_113 : decode cX4_init 113 = .ok (.aastore, 1) := by decide +kernel
theorem dX4_init_114 : decode cX4_init 114 = .ok (.iinc 1 1, 3) := by decide +kernel
theorem dX4_init_117 : decode cX4_init 117 = .ok (.goto (-21), 3) := by decide +kernel
theorem dX4_init_120 : decode cX4_init 120 = .ok (.return_, 1) := by decide +kernel
set_option maxRecDepth 20000 in
theorem ggX4_person_X4_within : GoodIn wsX4_person wsX4_within := goodIn_r _ [6] (by decide +kernel) (by decide +kernel)
set_option maxRecDepth 20000 in
theorem gX4_person_X4_within : GoodIn wsX4_person (va_wsS RX4 53 yX4_within wsX4_within) := goodIn_app (goodIn_of _ (by decide +kernel)) ggX4_person_X4_within
set_option maxRecDepth 20000 in
theorem ggX4_person_X1_forget : GoodIn wsX4_person wsX1_forget := goodIn_r _ [10, 11, 41, 42, 43, 44, 45, 46] (by decide +kernel) (by decide +kernel)
set_option maxRecDepth 20000 in
theorem gX4_person_X1_forget_n61 : GoodIn wsX4_person (wsX1_forget) := ggX4_person_X1_forget
set_option maxRecDepth 20000 in
theorem ggX4_person_X0_seatNew : GoodIn wsX4_person wsX0_seatNew := goodIn_r _ [15, 16, 17, 18, 19, 20, 31, 32, 33, 34, 35, 36, 37, 38, 39, 40] (by decide +kernel) (by decide +kernel)
set_option maxRecDepth 20000 in
theorem gX4_person_X0_seatNew_n64 : GoodIn wsX4_person (wsX0_seatNew) := ggX4_person_X0_seatNew
theorem dX4_person_0 : decode cX4_person 0 = .ok (.iload_n 1, 1) := by decide +kernel
theorem dX4_person_1 : decode cX4_person 1 = .ok (.iconst 0, 1) := by decide +kernel
theorem dX4_person_2 : decode cX4_person 2 = .ok (.iconst 4, 1) := by decide +kernel
theorem dX4_person_3 : decode cX4_person 3 = .ok (.invokestatic 53, 3) := by decide +kernel
theorem dX4_person_6 : decode cX4_person 6 = .ok (.ifCond .ne 5, 3) := by decide +kernel
theorem dX4_person_9 : decode cX4_person 9 = .ok (.iconst (-1), 1) := by decide +kernel
theorem dX4_person_10 : decode cX4_person 10 = .ok (.ireturn, 1) := by decide +kernel
theorem dX4_person_11 : decode cX4_person 11 = .ok (.aload_n 0, 1) := by decide +kernel
theorem dX4_person_12 : decode cX4_person 12 = .ok (.getfield 10, 3) := by decide +kernel
theorem dX4_person_15 : decode cX4_person 15 = .ok (.getfield 57, 3) := by decide +kernel
theorem dX4_person_18 : decode cX4_person 18 = .ok (.bipush 6, 2) := by decide +kernel
theorem dX4_person_20 : decode cX4_person 20 = .ok (.if_icmp .ne 6, 3) := by decide +kernel
theorem dX4_person_23 : decode cX4_person 23 = .ok (.bipush (-3), 2) := by decide +kernel
theorem dX4_person_25 : decode cX4_person 25 = .ok (.ireturn, 1) := by decide +kernel
theorem dX4_person_26 : decode cX4_person 26 = .ok (.aload_n 0, 1) := by decide +kernel
theorem dX4_person_27 : decode cX4_person 27 = .ok (.getfield 19, 3) := by decide +kernel
theorem dX4_person_30 : decode cX4_person 30 = .ok (.invokevirtual 61, 3) := by decide +kernel
theorem dX4_person_33 : decode cX4_person 33 = .ok (.aload_n 0, 1) := by decide +kernel
theorem dX4_person_34 : decode cX4_person 34 = .ok (.getfield 10, 3) := by decide +kernel
theorem dX4_person_37 : decode cX4_person 37 = .ok (.iload_n 1, 1) := by decide +kernel
theorem dX4_person_38 : decode cX4_person 38 = .ok (.invokevirtual 64, 3) := by decide +kernel
theorem dX4_person_41 : decode cX4_person 41 = .ok (.ireturn, 1) := by decide +kernel
set_option maxRecDepth 20000 in
theorem ggX4_of_X4_isPerson : GoodIn wsX4_of wsX4_isPerson := goodIn_r _ [6, 1, 7, 8, 5, 9, 47, 48, 49, 50, 51, 52, 53, 54, 55, 56, 57, 58, 59, 60, 61, 62, 63, 64, 65, 66] (by decide +kernel) (by decide +kernel)
set_option maxRecDepth 20000 in
theorem gX4_of_X4_isPerson : GoodIn wsX4_of (wsV RX4 68 RX4 yX4_isPerson wsX4_isPerson) := goodIn_app (goodIn_of _ (by decide +kernel)) ggX4_of_X4_isPerson
set_option maxRecDepth 20000 in
theorem ggX4_of_X4_asSet : GoodIn wsX4_of wsX4_asSet := goodIn_r _ [12] (by decide +kernel) (by decide +kernel)
set_option maxRecDepth 20000 in
theorem gX4_of_X4_asSet : GoodIn wsX4_of (va_wsS RX4 79 yX4_asSet wsX4_asSet) := goodIn_app (goodIn_of _ (by decide +kernel)) ggX4_of_X4_asSet
set_option maxRecDepth 20000 in
theorem ggX4_of_X0_openOf : GoodIn wsX4_of wsX0_openOf := goodIn_r _ [16, 17, 18, 19, 20, 5, 21, 22, 23, 57, 58, 59, 60, 61, 62, 63, 64, 65, 66] (by decide +kernel) (by decide +kernel)
set_option maxRecDepth 20000 in
theorem gX4_of_X0_openOf_n83 : GoodIn wsX4_of (wsX0_openOf) := ggX4_of_X0_openOf
set_option maxRecDepth 20000 in
theorem ggX4_of_X0_rankOf : GoodIn wsX4_of wsX0_rankOf := goodIn_r _ [26, 18, 20, 5, 21, 22, 23, 27, 28, 29, 30, 31, 32, 33, 57, 58, 59, 60, 61, 62, 63, 64, 65, 66] (by decide +kernel) (by decide +kernel)
set_option maxRecDepth 20000 in
theorem gX4_of_X0_rankOf_n87 : GoodIn wsX4_of (wsX0_rankOf) := ggX4_of_X0_rankOf
set_option maxRecDepth 20000 in
theorem ggX4_of_X0_beside : GoodIn wsX4_of wsX0_beside := goodIn_r _ [36, 37, 38, 39, 40, 14, 41, 42, 43, 44, 45, 46, 57, 58, 59, 60, 61, 62, 63, 64, 65, 66] (by decide +kernel) (by decide +kernel)
set_option maxRecDepth 20000 in
theorem gX4_of_X0_beside_n90 : GoodIn wsX4_of (wsX0_beside) := ggX4_of_X0_beside
theorem dX4_of_0 : decode cX4_of 0 = .ok (.aload_n 0, 1) := by decide +kernel
theorem dX4_of_1 : decode cX4_of 1 = .ok (.iload_n 1, 1) := by decide +kernel
theorem dX4_of_2 : decode cX4_of 2 = .ok (.invokevirtual 68, 3) := by decide +kernel
theorem dX4_of_5 : decode cX4_of 5 = .ok (.ifCond .ne 5, 3) := by decide +kernel
theorem dX4_of_8 : decode cX4_of 8 = .ok (.iconst (-1), 1) := by decide +kernel
theorem dX4_of_9 : decode cX4_of 9 = .ok (.ireturn, 1) := by decide +kernel
theorem dX4_of_10 : decode cX4_of 10 = .ok (.iload_n 2, 1) := by decide +kernel
theorem dX4_of_11 : decode cX4_of 11 = .ok (.tableswitch 109 0 5 #[37, 47, 60, 72, 81, 91], 37) := by decide +kernel
theorem dX4_of_48 : decode cX4_of 48 = .ok (.aload_n 0, 1) := by decide +kernel
theorem dX4_of_49 : decode cX4_of 49 = .ok (.getfield 10, 3) := by decide +kernel
theorem dX4_of_52 : decode cX4_of 52 = .ok (.getfield 72, 3) := by decide +kernel
theorem dX4_of_55 : decode cX4_of 55 = .ok (.iload_n 1, 1) := by decide +kernel
theorem dX4_of_56 : decode cX4_of 56 = .ok (.iaload, 1) := by decide +kernel
theorem dX4_of_57 : decode cX4_of 57 = .ok (.ireturn, 1) := by decide +kernel
theorem dX4_of_58 : decode cX4_of 58 = .ok (.aload_n 0, 1) := by decide +kernel
theorem dX4_of_59 : decode cX4_of 59 = .ok (.getfield 10, 3) := by decide +kernel
theorem dX4_of_62 : decode cX4_of 62 = .ok (.getfield 75, 3) := by decide +kernel
theorem dX4_of_65 : decode cX4_of 65 = .ok (.iload_n 1, 1) := by decide +kernel
theorem dX4_of_66 : decode cX4_of 66 = .ok (.laload, 1) := by decide +kernel
theorem dX4_of_67 : decode cX4_of 67 = .ok (.invokestatic 79, 3) := by decide +kernel
theorem dX4_of_70 : decode cX4_of 70 = .ok (.ireturn, 1) := by decide +kernel
theorem dX4_of_71 : decode cX4_of 71 = .ok (.aload_n 0, 1) := by decide +kernel
theorem dX4_of_72 : decode cX4_of 72 = .ok (.getfield 10, 3) := by decide +kernel
theorem dX4_of_75 : decode cX4_of 75 = .ok (.iload_n 1, 1) := by decide +kernel
theorem dX4_of_76 : decode cX4_of 76 = .ok (.invokevirtual 83, 3) := by decide +kernel
theorem dX4_of_79 : decode cX4_of 79 = .ok (.invokestatic 79, 3) := by decide +kernel
theorem dX4_of_82 : decode cX4_of 82 = .ok (.ireturn, 1) := by decide +kernel
theorem dX4_of_83 : decode cX4_of 83 = .ok (.aload_n 0, 1) := by decide +kernel
theorem dX4_of_84 : decode cX4_of 84 = .ok (.getfield 10, 3) := by decide +kernel
theorem dX4_of_87 : decode cX4_of 87 = .ok (.iload_n 1, 1) := by decide +kernel
theorem dX4_of_88 : decode cX4_of 88 = .ok (.invokevirtual 87, 3) := by decide +kernel
theorem dX4_of_91 : decode cX4_of 91 = .ok (.ireturn, 1) := by decide +kernel
theorem dX4_of_92 : decode cX4_of 92 = .ok (.aload_n 0, 1) := by decide +kernel
theorem dX4_of_93 : decode cX4_of 93 = .ok (.getfield 10, 3) := by decide +kernel
theorem dX4_of_96 : decode cX4_of 96 = .ok (.iload_n 1, 1) := by decide +kernel
theorem dX4_of_97 : decode cX4_of 97 = .ok (.iconst 1, 1) := by decide +kernel
theorem dX4_of_98 : decode cX4_of 98 = .ok (.invokevirtual 90, 3) := by decide +kernel
theorem dX4_of_101 : decode cX4_of 101 = .ok (.ireturn, 1) := by decide +kernel
theorem dX4_of_102 : decode cX4_of 102 = .ok (.aload_n 0, 1) := by decide +kernel
theorem dX4_of_103 : decode cX4_of 103 = .ok (.getfield 10, 3) := by decide +kernel
theorem dX4_of_106 : decode cX4_of 106 = .ok (.iload_n 1, 1) := by decide +kernel
theorem dX4_of_107 : decode cX4_of 107 = .ok (.aload_n 0, 1) := by decide +kernel
theorem dX4_of_108 : decode cX4_of 108 = .ok (.getfield 10, 3) := by decide +kernel
theorem dX4_of_111 : decode cX4_of 111 = .ok (.getfield 57, 3) := by decide +kernel
theorem dX4_of_114 : decode cX4_of 114 = .ok (.iconst 1, 1) := by decide +kernel
theorem dX4_of_115 : decode cX4_of 115 = .ok (.isub, 1) := by decide +kernel
theorem dX4_of_116 : decode cX4_of 116 = .ok (.invokevirtual 90, 3) := by decide +kernel
theorem dX4_of_119 : decode cX4_of 119 = .ok (.ireturn, 1) := by decide +kernel
theorem dX4_of_120 : decode cX4_of 120 = .ok (.iconst (-1), 1) := by decide +kernel
theorem dX4_of_121 : decode cX4_of 121 = .ok (.ireturn, 1) := by decide +kernel
set_option maxRecDepth 20000 in
theorem ggX4_strength_X4_isPerson : GoodIn wsX4_strength wsX4_isPerson := goodIn_r _ [6, 1, 7, 8, 5, 9, 24, 25, 26, 27, 28, 29, 30, 31, 32, 33, 34, 35, 36, 37, 38, 39, 40, 41, 42, 43] (by decide +kernel) (by decide +kernel)
set_option maxRecDepth 20000 in
theorem gX4_strength_X4_isPerson : GoodIn wsX4_strength (wsV RX4 68 RX4 yX4_isPerson wsX4_isPerson) := goodIn_app (goodIn_of _ (by decide +kernel)) ggX4_strength_X4_isPerson
set_option maxRecDepth 20000 in
theorem ggX4_strength_X4_isThing : GoodIn wsX4_strength wsX4_isThing := goodIn_r _ [12, 7, 8, 5, 9] (by decide +kernel) (by decide +kernel)
set_option maxRecDepth 20000 in
theorem gX4_strength_X4_isThing : GoodIn wsX4_strength (va_wsS RX4 94 yX4_isThing wsX4_isThing) := goodIn_app (goodIn_of _ (by decide +kernel)) ggX4_strength_X4_isThing
set_option maxRecDepth 20000 in
theorem ggX4_strength_X0_isKnownBy : GoodIn wsX4_strength wsX0_isKnownBy := goodIn_r _ [16, 17, 18, 5, 19, 34, 35, 36, 37, 38, 39, 40, 41, 42, 43] (by decide +kernel) (by decide +kernel)
set_option maxRecDepth 20000 in
theorem gX4_strength_X0_isKnownBy_n97 : GoodIn wsX4_strength (wsX0_isKnownBy) := ggX4_strength_X0_isKnownBy
set_option maxRecDepth 20000 in
theorem ggX4_strength_X0_strengthOf : GoodIn wsX4_strength wsX0_strengthOf := goodIn_r _ [22, 23, 34, 35, 36, 37, 38, 39, 40, 41, 42, 43] (by decide +kernel) (by decide +kernel)
set_option maxRecDepth 20000 in
theorem gX4_strength_X0_strengthOf_n101 : GoodIn wsX4_strength (wsX0_strengthOf) := ggX4_strength_X0_strengthOf
theorem dX4_strength_0 : decode cX4_strength 0 = .ok (.aload_n 0, 1) := by decide +kernel
theorem dX4_strength_1 : decode cX4_strength 1 = .ok (.iload_n 1, 1) := by decide +kernel
theorem dX4_strength_2 : decode cX4_strength 2 = .ok (.invokevirtual 68, 3) := by decide +kernel
theorem dX4_strength_5 : decode cX4_strength 5 = .ok (.ifCond .eq 10, 3) := by decide +kernel
theorem dX4_strength_8 : decode cX4_strength 8 = .ok (.iload_n 2, 1) := by decide +kernel
theorem dX4_strength_9 : decode cX4_strength 9 = .ok (.invokestatic 94, 3) := by decide +kernel
theorem dX4_strength_12 : decode cX4_strength 12 = .ok (.ifCond .ne 5, 3) := by decide +kernel
theorem dX4_strength_15 : decode cX4_strength 15 = .ok (.iconst (-1), 1) := by decide +kernel
theorem dX4_strength_16 : decode cX4_strength 16 = .ok (.ireturn, 1) := by decide +kernel
theorem dX4_strength_17 : decode cX4_strength 17 = .ok (.aload_n 0, 1) := by decide +kernel
theorem dX4_strength_18 : decode cX4_strength 18 = .ok (.getfield 10, 3) := by decide +kernel
theorem dX4_strength_21 : decode cX4_strength 21 = .ok (.iload_n 1, 1) := by decide +kernel
theorem dX4_strength_22 : decode cX4_strength 22 = .ok (.iload_n 2, 1) := by decide +kernel
theorem dX4_strength_23 : decode cX4_strength 23 = .ok (.invokevirtual 97, 3) := by decide +kernel
theorem dX4_strength_26 : decode cX4_strength 26 = .ok (.ifCond .eq 15, 3) := by decide +kernel
theorem dX4_strength_29 : decode cX4_strength 29 = .ok (.aload_n 0, 1) := by decide +kernel
theorem dX4_strength_30 : decode cX4_strength 30 = .ok (.getfield 10, 3) := by decide +kernel
theorem dX4_strength_33 : decode cX4_strength 33 = .ok (.iload_n 1, 1) := by decide +kernel
theorem dX4_strength_34 : decode cX4_strength 34 = .ok (.iload_n 2, 1) := by decide +kernel
theorem dX4_strength_35 : decode cX4_strength 35 = .ok (.invokevirtual 101, 3) := by decide +kernel
theorem dX4_strength_38 : decode cX4_strength 38 = .ok (.goto 5, 3) := by decide +kernel
theorem dX4_strength_41 : decode cX4_strength 41 = .ok (.bipush (-4), 2) := by decide +kernel
theorem dX4_strength_43 : decode cX4_strength 43 = .ok (.ireturn, 1) := by decide +kernel
set_option maxRecDepth 20000 in
theorem ggX4_known_X4_isThing : GoodIn wsX4_known wsX4_isThing := goodIn_r _ [5, 6, 7, 4, 8] (by decide +kernel) (by decide +kernel)
set_option maxRecDepth 20000 in
theorem gX4_known_X4_isThing : GoodIn wsX4_known (va_wsS RX4 94 yX4_isThing wsX4_isThing) := goodIn_app (goodIn_of _ (by decide +kernel)) ggX4_known_X4_isThing
set_option maxRecDepth 20000 in
theorem ggX4_known_X0_knowersOf : GoodIn wsX4_known wsX0_knowersOf := goodIn_r _ [12, 13, 14, 25, 26, 27, 28, 29, 30, 31, 32, 33, 34] (by decide +kernel) (by decide +kernel)
set_option maxRecDepth 20000 in
theorem gX4_known_X0_knowersOf_n104 : GoodIn wsX4_known (wsX0_knowersOf) := ggX4_known_X0_knowersOf
theorem dX4_known_0 : decode cX4_known 0 = .ok (.iload_n 1, 1) := by decide +kernel
theorem dX4_known_1 : decode cX4_known 1 = .ok (.invokestatic 94, 3) := by decide +kernel
theorem dX4_known_4 : decode cX4_known 4 = .ok (.ifCond .eq 14, 3) := by decide +kernel
theorem dX4_known_7 : decode cX4_known 7 = .ok (.aload_n 0, 1) := by decide +kernel
theorem dX4_known_8 : decode cX4_known 8 = .ok (.getfield 10, 3) := by decide +kernel
theorem dX4_known_11 : decode cX4_known 11 = .ok (.iload_n 1, 1) := by decide +kernel
theorem dX4_known_12 : decode cX4_known 12 = .ok (.invokevirtual 104, 3) := by decide +kernel
theorem dX4_known_15 : decode cX4_known 15 = .ok (.goto 4, 3) := by decide +kernel
theorem dX4_known_18 : decode cX4_known 18 = .ok (.iconst (-1), 1) := by decide +kernel
theorem dX4_known_19 : decode cX4_known 19 = .ok (.ireturn, 1) := by decide +kernel
set_option maxRecDepth 20000 in
theorem ggX4_seats_X4_isPerson : GoodIn wsX4_seats wsX4_isPerson := goodIn_r _ [6, 1, 7, 8, 5, 9, 27, 28, 29, 30, 31, 32, 33, 34, 35, 36, 37, 38, 39, 40, 41, 42, 43, 44, 45, 46] (by decide +kernel) (by decide +kernel)
set_option maxRecDepth 20000 in
theorem gX4_seats_X4_isPerson : GoodIn wsX4_seats (wsV RX4 68 RX4 yX4_isPerson wsX4_isPerson) := goodIn_app (goodIn_of _ (by decide +kernel)) ggX4_seats_X4_isPerson
set_option maxRecDepth 20000 in
theorem ggX4_seats_X0_swapSeats : GoodIn wsX4_seats wsX0_swapSeats := goodIn_r _ [13, 14, 15, 16, 17, 11, 18, 19, 37, 38, 39, 40, 41, 42, 43, 44, 45, 46] (by decide +kernel) (by decide +kernel)
set_option maxRecDepth 20000 in
theorem gX4_seats_X0_swapSeats_n107 : GoodIn wsX4_seats (wsX0_swapSeats) := ggX4_seats_X0_swapSeats
set_option maxRecDepth 20000 in
theorem ggX4_seats_X0_beside : GoodIn wsX4_seats wsX0_beside := goodIn_r _ [22, 14, 15, 16, 17, 11, 18, 19, 23, 24, 25, 26, 37, 38, 39, 40, 41, 42, 43, 44, 45, 46] (by decide +kernel) (by decide +kernel)
set_option maxRecDepth 20000 in
theorem gX4_seats_X0_beside_n90 : GoodIn wsX4_seats (wsX0_beside) := ggX4_seats_X0_beside
theorem dX4_seats_0 : decode cX4_seats 0 = .ok (.aload_n 0, 1) := by decide +kernel
theorem dX4_seats_1 : decode cX4_seats 1 = .ok (.iload_n 1, 1) := by decide +kernel
theorem dX4_seats_2 : decode cX4_seats 2 = .ok (.invokevirtual 68, 3) := by decide +kernel
theorem dX4_seats_5 : decode cX4_seats 5 = .ok (.ifCond .eq 16, 3) := by decide +kernel
theorem dX4_seats_8 : decode cX4_seats 8 = .ok (.aload_n 0, 1) := by decide +kernel
theorem dX4_seats_9 : decode cX4_seats 9 = .ok (.iload_n 2, 1) := by decide +kernel
theorem dX4_seats_10 : decode cX4_seats 10 = .ok (.invokevirtual 68, 3) := by decide +kernel
theorem dX4_seats_13 : decode cX4_seats 13 = .ok (.ifCond .eq 8, 3) := by decide +kernel
theorem dX4_seats_16 : decode cX4_seats 16 = .ok (.iload_n 1, 1) := by decide +kernel
theorem dX4_seats_17 : decode cX4_seats 17 = .ok (.iload_n 2, 1) := by decide +kernel
theorem dX4_seats_18 : decode cX4_seats 18 = .ok (.if_icmp .ne 5, 3) := by decide +kernel
theorem dX4_seats_21 : decode cX4_seats 21 = .ok (.iconst (-1), 1) := by decide +kernel
theorem dX4_seats_22 : decode cX4_seats 22 = .ok (.ireturn, 1) := by decide +kernel
theorem dX4_seats_23 : decode cX4_seats 23 = .ok (.aload_n 0, 1) := by decide +kernel
theorem dX4_seats_24 : decode cX4_seats 24 = .ok (.getfield 10, 3) := by decide +kernel
theorem dX4_seats_27 : decode cX4_seats 27 = .ok (.iload_n 1, 1) := by decide +kernel
theorem dX4_seats_28 : decode cX4_seats 28 = .ok (.iload_n 2, 1) := by decide +kernel
theorem dX4_seats_29 : decode cX4_seats 29 = .ok (.invokevirtual 107, 3) := by decide +kernel
theorem dX4_seats_32 : decode cX4_seats 32 = .ok (.aload_n 0, 1) := by decide +kernel
theorem dX4_seats_33 : decode cX4_seats 33 = .ok (.getfield 10, 3) := by decide +kernel
theorem dX4_seats_36 : decode cX4_seats 36 = .ok (.iload_n 1, 1) := by decide +kernel
theorem dX4_seats_37 : decode cX4_seats 37 = .ok (.iconst 1, 1) := by decide +kernel
theorem dX4_seats_38 : decode cX4_seats 38 = .ok (.invokevirtual 90, 3) := by decide +kernel
theorem dX4_seats_41 : decode cX4_seats 41 = .ok (.ireturn, 1) := by decide +kernel
set_option maxRecDepth 20000 in
theorem ggX4_rule_X4_within : GoodIn wsX4_rule wsX4_within := goodIn_r _ [5] (by decide +kernel) (by decide +kernel)
set_option maxRecDepth 20000 in
theorem gX4_rule_X4_within : GoodIn wsX4_rule (va_wsS RX4 53 yX4_within wsX4_within) := goodIn_app (goodIn_of _ (by decide +kernel)) ggX4_rule_X4_within
theorem dX4_rule_0 : decode cX4_rule 0 = .ok (.iload_n 1, 1) := by decide +kernel
theorem dX4_rule_1 : decode cX4_rule 1 = .ok (.ifCond .ne 31, 3) := by decide +kernel
theorem dX4_rule_4 : decode cX4_rule 4 = .ok (.iload_n 2, 1) := by decide +kernel
theorem dX4_rule_5 : decode cX4_rule 5 = .ok (.iconst 1, 1) := by decide +kernel
theorem dX4_rule_6 : decode cX4_rule 6 = .ok (.bipush 9, 2) := by decide +kernel
theorem dX4_rule_8 : decode cX4_rule 8 = .ok (.invokestatic 53, 3) := by decide +kernel
theorem dX4_rule_11 : decode cX4_rule 11 = .ok (.ifCond .eq 21, 3) := by decide +kernel
theorem dX4_rule_14 : decode cX4_rule 14 = .ok (.aload_n 0, 1) := by decide +kernel
theorem dX4_rule_15 : decode cX4_rule 15 = .ok (.getfield 10, 3) := by decide +kernel
theorem dX4_rule_18 : decode cX4_rule 18 = .ok (.getfield 111, 3) := by decide +kernel
theorem dX4_rule_21 : decode cX4_rule 21 = .ok (.istore_n 3, 1) := by decide +kernel
theorem dX4_rule_22 : decode cX4_rule 22 = .ok (.aload_n 0, 1) := by decide +kernel
theorem dX4_rule_23 : decode cX4_rule 23 = .ok (.getfield 10, 3) := by decide +kernel
theorem dX4_rule_26 : decode cX4_rule 26 = .ok (.iload_n 2, 1) := by decide +kernel
theorem dX4_rule_27 : decode cX4_rule 27 = .ok (.putfield 111, 3) := by decide +kernel
theorem dX4_rule_30 : decode cX4_rule 30 = .ok (.iload_n 3, 1) := by decide +kernel
theorem dX4_rule_31 : decode cX4_rule 31 = .ok (.ireturn, 1) := by decide +kernel
theorem dX4_rule_32 : decode cX4_rule 32 = .ok (.iload_n 1, 1) := by decide +kernel
theorem dX4_rule_33 : decode cX4_rule 33 = .ok (.iconst 1, 1) := by decide +kernel
theorem dX4_rule_34 : decode cX4_rule 34 = .ok (.if_icmp .ne 31, 3) := by decide +kernel
theorem dX4_rule_37 : decode cX4_rule 37 = .ok (.iload_n 2, 1) := by decide +kernel
theorem dX4_rule_38 : decode cX4_rule 38 = .ok (.iconst 2, 1) := by decide +kernel
theorem dX4_rule_39 : decode cX4_rule 39 = .ok (.bipush 30, 2) := by decide +kernel
theorem dX4_rule_41 : decode cX4_rule 41 = .ok (.invokestatic 53, 3) := by decide +kernel
theorem dX4_rule_44 : decode cX4_rule 44 = .ok (.ifCond .eq 21, 3) := by decide +kernel
theorem dX4_rule_47 : decode cX4_rule 47 = .ok (.aload_n 0, 1) := by decide +kernel
theorem dX4_rule_48 : decode cX4_rule 48 = .ok (.getfield 10, 3) := by decide +kernel
theorem dX4_rule_51 : decode cX4_rule 51 = .ok (.getfield 114, 3) := by decide +kernel
theorem dX4_rule_54 : decode cX4_rule 54 = .ok (.istore_n 3, 1) := by decide +kernel
theorem dX4_rule_55 : decode cX4_rule 55 = .ok (.aload_n 0, 1) := by decide +kernel
theorem dX4_rule_56 : decode cX4_rule 56 = .ok (.getfield 10, 3) := by decide +kernel
theorem dX4_rule_59 : decode cX4_rule 59 = .ok (.iload_n 2, 1) := by decide +kernel
theorem dX4_rule_60 : decode cX4_rule 60 = .ok (.putfield 114, 3) := by decide +kernel
theorem dX4_rule_63 : decode cX4_rule 63 = .ok (.iload_n 3, 1) := by decide +kernel
theorem dX4_rule_64 : decode cX4_rule 64 = .ok (.ireturn, 1) := by decide +kernel
theorem dX4_rule_65 : decode cX4_rule 65 = .ok (.iconst (-1), 1) := by decide +kernel
theorem dX4_rule_66 : decode cX4_rule 66 = .ok (.ireturn, 1) := by decide +kernel
set_option maxRecDepth 20000 in
theorem ggX4_type_X4_within : GoodIn wsX4_type wsX4_within := goodIn_r _ [5] (by decide +kernel) (by decide +kernel)
set_option maxRecDepth 20000 in
theorem gX4_type_X4_within : GoodIn wsX4_type (va_wsS RX4 53 yX4_within wsX4_within) := goodIn_app (goodIn_of _ (by decide +kernel)) ggX4_type_X4_within
set_option maxRecDepth 20000 in
theorem ggX4_type_X3_append : GoodIn wsX4_type wsX3_append := goodIn_r _ [9, 10, 11, 22, 23, 24] (by decide +kernel) (by decide +kernel)
set_option maxRecDepth 20000 in
theorem gX4_type_X3_append_n120 : GoodIn wsX4_type (wsX3_append) := ggX4_type_X3_append
theorem dX4_type_0 : decode cX4_type 0 = .ok (.iload_n 1, 1) := by decide +kernel
theorem dX4_type_1 : decode cX4_type 1 = .ok (.bipush 32, 2) := by decide +kernel
theorem dX4_type_3 : decode cX4_type 3 = .ok (.bipush 126, 2) := by decide +kernel
theorem dX4_type_5 : decode cX4_type 5 = .ok (.invokestatic 53, 3) := by decide +kernel
theorem dX4_type_8 : decode cX4_type 8 = .ok (.ifCond .ne 5, 3) := by decide +kernel
theorem dX4_type_11 : decode cX4_type 11 = .ok (.iconst (-1), 1) := by decide +kernel
theorem dX4_type_12 : decode cX4_type 12 = .ok (.ireturn, 1) := by decide +kernel
theorem dX4_type_13 : decode cX4_type 13 = .ok (.aload_n 0, 1) := by decide +kernel
theorem dX4_type_14 : decode cX4_type 14 = .ok (.getfield 42, 3) := by decide +kernel
theorem dX4_type_17 : decode cX4_type 17 = .ok (.getfield 117, 3) := by decide +kernel
theorem dX4_type_20 : decode cX4_type 20 = .ok (.bipush 70, 2) := by decide +kernel
theorem dX4_type_22 : decode cX4_type 22 = .ok (.if_icmp .ne 8, 3) := by decide +kernel
theorem dX4_type_25 : decode cX4_type 25 = .ok (.bipush (-3), 2) := by decide +kernel
theorem dX4_type_27 : decode cX4_type 27 = .ok (.goto 11, 3) := by decide +kernel
theorem dX4_type_30 : decode cX4_type 30 = .ok (.aload_n 0, 1) := by decide +kernel
theorem dX4_type_31 : decode cX4_type 31 = .ok (.getfield 42, 3) := by decide +kernel
theorem dX4_type_34 : decode cX4_type 34 = .ok (.iload_n 1, 1) := by decide +kernel
theorem dX4_type_35 : decode cX4_type 35 = .ok (.invokevirtual 120, 3) := by decide +kernel
theorem dX4_type_38 : decode cX4_type 38 = .ok (.ireturn, 1) := by decide +kernel
set_option maxRecDepth 20000 in
theorem ggX4_court_X3_readCourt : GoodIn wsX4_court wsX3_readCourt := goodIn_r _ [8, 9, 10, 11, 12, 13, 14, 15, 16, 17, 18, 6, 19, 20, 21, 22, 23, 24, 25, 26, 27, 28, 29, 30, 31, 32, 33, 34, 35, 36, 37, 38, 39, 40, 41, 42, 43, 44, 45, 46, 47, 48, 49, 50, 51, 52, 53, 54, 55, 56, 57, 58, 59, 60, 61, 62, 63, 64, 65, 66, 67, 68, 69, 70, 71, 72, 73, 74, 75, 76, 77, 78, 79, 80, 81, 82, 83, 84, 85, 86, 87, 88, 89, 90, 91, 92, 93, 94, 95, 96, 97, 98, 99, 100, 101, 102, 103, 104, 105, 106, 107, 108, 109, 110, 111, 112, 113, 114, 115, 116, 117, 118, 119, 120, 121, 122, 123, 124, 125, 126, 127, 128, 129, 130, 131, 132, 133, 134, 135, 136, 137, 138, 139, 140, 141, 142, 143, 144, 145, 146, 147, 148, 174, 175, 176, 177, 178, 179, 180, 181, 182, 183, 184, 185, 186] (by decide +kernel) (by decide +kernel)
set_option maxRecDepth 20000 in
theorem gX4_court_X3_readCourt_n123 : GoodIn wsX4_court (wsX3_readCourt) := ggX4_court_X3_readCourt
set_option maxRecDepth 20000 in
theorem ggX4_court_X0_become : GoodIn wsX4_court wsX0_become := goodIn_r _ [151, 134, 152, 153, 154, 155, 135, 136, 137, 14, 156, 157, 15, 158, 177, 178, 179, 180, 181, 182, 183, 184, 185, 186] (by decide +kernel) (by decide +kernel)
set_option maxRecDepth 20000 in
theorem gX4_court_X0_become_n130 : GoodIn wsX4_court (wsX0_become) := ggX4_court_X0_become
set_option maxRecDepth 20000 in
theorem ggX4_court_X1_forget : GoodIn wsX4_court wsX1_forget := goodIn_r _ [162, 163, 187, 188, 189, 190, 191, 192] (by decide +kernel) (by decide +kernel)
set_option maxRecDepth 20000 in
theorem gX4_court_X1_forget_n61 : GoodIn wsX4_court (wsX1_forget) := ggX4_court_X1_forget
theorem dX4_court_0 : decode cX4_court 0 = .ok (.aload_n 0, 1) := by decide +kernel
theorem dX4_court_1 : decode cX4_court 1 = .ok (.getfield 42, 3) := by decide +kernel
theorem dX4_court_4 : decode cX4_court 4 = .ok (.aload_n 0, 1) := by decide +kernel
theorem dX4_court_5 : decode cX4_court 5 = .ok (.getfield 29, 3) := by decide +kernel
theorem dX4_court_8 : decode cX4_court 8 = .ok (.invokevirtual 123, 3) := by decide +kernel
theorem dX4_court_11 : decode cX4_court 11 = .ok (.istore_n 1, 1) := by decide +kernel
theorem dX4_court_12 : decode cX4_court 12 = .ok (.aload_n 0, 1) := by decide +kernel
theorem dX4_court_13 : decode cX4_court 13 = .ok (.getfield 42, 3) := by decide +kernel
theorem dX4_court_16 : decode cX4_court 16 = .ok (.iconst 0, 1) := by decide +kernel
theorem dX4_court_17 : decode cX4_court 17 = .ok (.putfield 117, 3) := by decide +kernel
theorem dX4_court_20 : decode cX4_court 20 = .ok (.iload_n 1, 1) := by decide +kernel
theorem dX4_court_21 : decode cX4_court 21 = .ok (.ifCond .eq 5, 3) := by decide +kernel
theorem dX4_court_24 : decode cX4_court 24 = .ok (.iload_n 1, 1) := by decide +kernel
theorem dX4_court_25 : decode cX4_court 25 = .ok (.ireturn, 1) := by decide +kernel
theorem dX4_court_26 : decode cX4_court 26 = .ok (.aload_n 0, 1) := by decide +kernel
theorem dX4_court_27 : decode cX4_court 27 = .ok (.getfield 29, 3) := by decide +kernel
theorem dX4_court_30 : decode cX4_court 30 = .ok (.aload_n 0, 1) := by decide +kernel
theorem dX4_court_31 : decode cX4_court 31 = .ok (.getfield 10, 3) := by decide +kernel
theorem dX4_court_34 : decode cX4_court 34 = .ok (.getfield 127, 3) := by decide +kernel
theorem dX4_court_37 : decode cX4_court 37 = .ok (.putfield 127, 3) := by decide +kernel
theorem dX4_court_40 : decode cX4_court 40 = .ok (.aload_n 0, 1) := by decide +kernel
theorem dX4_court_41 : decode cX4_court 41 = .ok (.getfield 10, 3) := by decide +kernel
theorem dX4_court_44 : decode cX4_court 44 = .ok (.aload_n 0, 1) := by decide +kernel
theorem dX4_court_45 : decode cX4_court 45 = .ok (.getfield 29, 3) := by decide +kernel
theorem dX4_court_48 : decode cX4_court 48 = .ok (.invokevirtual 130, 3) := by decide +kernel
theorem dX4_court_51 : decode cX4_court 51 = .ok (.aload_n 0, 1) := by decide +kernel
theorem dX4_court_52 : decode cX4_court 52 = .ok (.getfield 19, 3) := by decide +kernel
theorem dX4_court_55 : decode cX4_court 55 = .ok (.invokevirtual 61, 3) := by decide +kernel
theorem dX4_court_58 : decode cX4_court 58 = .ok (.aload_n 0, 1) := by decide +kernel
theorem dX4_court_59 : decode cX4_court 59 = .ok (.getfield 10, 3) := by decide +kernel
theorem dX4_court_62 : decode cX4_court 62 = .ok (.getfield 57, 3) := by decide +kernel
theorem dX4_court_65 : decode cX4_court 65 = .ok (.ireturn, 1) := by decide +kernel
set_option maxRecDepth 20000 in
theorem ggX4_count_X0_timesKnown : GoodIn wsX4_count wsX0_timesKnown := goodIn_r _ [6, 7, 8, 9, 10, 11, 12, 13, 14, 15, 56, 57, 58, 59, 60, 61, 62, 63, 64, 65] (by decide +kernel) (by decide +kernel)
set_option maxRecDepth 20000 in
theorem gX4_count_X0_timesKnown_n137 : GoodIn wsX4_count (wsX0_timesKnown) := ggX4_count_X0_timesKnown
set_option maxRecDepth 20000 in
theorem ggX4_count_X0_timesOpen : GoodIn wsX4_count wsX0_timesOpen := goodIn_r _ [18, 7, 19, 20, 21, 4, 22, 8, 23, 24, 25, 26, 27, 28, 29, 9, 10, 11, 12, 13, 14, 15, 56, 57, 58, 59, 60, 61, 62, 63, 64, 65] (by decide +kernel) (by decide +kernel)
set_option maxRecDepth 20000 in
theorem gX4_count_X0_timesOpen_n141 : GoodIn wsX4_count (wsX0_timesOpen) := ggX4_count_X0_timesOpen
set_option maxRecDepth 20000 in
theorem ggX4_count_X0_thingsOut : GoodIn wsX4_count wsX0_thingsOut := goodIn_r _ [32, 33, 34, 35, 4, 36, 7, 37, 38, 39, 40, 8, 56, 57, 58, 59, 60, 61, 62, 63, 64, 65] (by decide +kernel) (by decide +kernel)
set_option maxRecDepth 20000 in
theorem gX4_count_X0_thingsOut_n144 : GoodIn wsX4_count (wsX0_thingsOut) := ggX4_count_X0_thingsOut
set_option maxRecDepth 20000 in
theorem ggX4_count_X0_daysToRenewal : GoodIn wsX4_count wsX0_daysToRenewal := goodIn_r _ [43, 44, 45, 56, 57, 58, 59, 60, 61, 62, 63, 64, 65] (by decide +kernel) (by decide +kernel)
set_option maxRecDepth 20000 in
theorem gX4_count_X0_daysToRenewal_n147 : GoodIn wsX4_count (wsX0_daysToRenewal) := ggX4_count_X0_daysToRenewal
theorem dX4_count_0 : decode cX4_count 0 = .ok (.iload_n 1, 1) := by decide +kernel
theorem dX4_count_1 : decode cX4_count 1 = .ok (.tableswitch 123 0 8 #[51, 59, 67, 75, 83, 91, 99, 107, 115], 51) := by decide +kernel
theorem dX4_count_52 : decode cX4_count 52 = .ok (.aload_n 0, 1) := by decide +kernel
theorem dX4_count_53 : decode cX4_count 53 = .ok (.getfield 10, 3) := by decide +kernel
theorem dX4_count_56 : decode cX4_count 56 = .ok (.getfield 57, 3) := by decide +kernel
theorem dX4_count_59 : decode cX4_count 59 = .ok (.ireturn, 1) := by decide +kernel
theorem dX4_count_60 : decode cX4_count 60 = .ok (.aload_n 0, 1) := by decide +kernel
theorem dX4_count_61 : decode cX4_count 61 = .ok (.getfield 10, 3) := by decide +kernel
theorem dX4_count_64 : decode cX4_count 64 = .ok (.getfield 134, 3) := by decide +kernel
theorem dX4_count_67 : decode cX4_count 67 = .ok (.ireturn, 1) := by decide +kernel
theorem dX4_count_68 : decode cX4_count 68 = .ok (.aload_n 0, 1) := by decide +kernel
theorem dX4_count_69 : decode cX4_count 69 = .ok (.getfield 10, 3) := by decide +kernel
theorem dX4_count_72 : decode cX4_count 72 = .ok (.getfield 111, 3) := by decide +kernel
theorem dX4_count_75 : decode cX4_count 75 = .ok (.ireturn, 1) := by decide +kernel
theorem dX4_count_76 : decode cX4_count 76 = .ok (.aload_n 0, 1) := by decide +kernel
theorem dX4_count_77 : decode cX4_count 77 = .ok (.getfield 10, 3) := by decide +kernel
theorem dX4_count_80 : decode cX4_count 80 = .ok (.getfield 114, 3) := by decide +kernel
theorem dX4_count_83 : decode cX4_count 83 = .ok (.ireturn, 1) := by decide +kernel
theorem dX4_count_84 : decode cX4_count 84 = .ok (.aload_n 0, 1) := by decide +kernel
theorem dX4_count_85 : decode cX4_count 85 = .ok (.getfield 10, 3) := by decide +kernel
theorem dX4_count_88 : decode cX4_count 88 = .ok (.invokevirtual 137, 3) := by decide +kernel
theorem dX4_count_91 : decode cX4_count 91 = .ok (.ireturn, 1) := by decide +kernel
theorem dX4_count_92 : decode cX4_count 92 = .ok (.aload_n 0, 1) := by decide +kernel
theorem dX4_count_93 : decode cX4_count 93 = .ok (.getfield 10, 3) := by decide +kernel
theorem dX4_count_96 : decode cX4_count 96 = .ok (.invokevirtual 141, 3) := by decide +kernel
theorem dX4_count_99 : decode cX4_count 99 = .ok (.ireturn, 1) := by decide +kernel
theorem dX4_count_100 : decode cX4_count 100 = .ok (.aload_n 0, 1) := by decide +kernel
theorem dX4_count_101 : decode cX4_count 101 = .ok (.getfield 10, 3) := by decide +kernel
theorem dX4_count_104 : decode cX4_count 104 = .ok (.invokevirtual 144, 3) := by decide +kernel
theorem dX4_count_107 : decode cX4_count 107 = .ok (.ireturn, 1) := by decide +kernel
theorem dX4_count_108 : decode cX4_count 108 = .ok (.aload_n 0, 1) := by decide +kernel
theorem dX4_count_109 : decode cX4_count 109 = .ok (.getfield 10, 3) := by decide +kernel
theorem dX4_count_112 : decode cX4_count 112 = .ok (.invokevirtual 147, 3) := by decide +kernel
theorem dX4_count_115 : decode cX4_count 115 = .ok (.ireturn, 1) := by decide +kernel
theorem dX4_count_116 : decode cX4_count 116 = .ok (.aload_n 0, 1) := by decide +kernel
theorem dX4_count_117 : decode cX4_count 117 = .ok (.getfield 19, 3) := by decide +kernel
theorem dX4_count_120 : decode cX4_count 120 = .ok (.getfield 150, 3) := by decide +kernel
theorem dX4_count_123 : decode cX4_count 123 = .ok (.ireturn, 1) := by decide +kernel
theorem dX4_count_124 : decode cX4_count 124 = .ok (.iconst (-1), 1) := by decide +kernel
theorem dX4_count_125 : decode cX4_count 125 = .ok (.ireturn, 1) := by decide +kernel
set_option maxRecDepth 20000 in
theorem ggX4_trust_X4_isPerson : GoodIn wsX4_trust wsX4_isPerson := goodIn_r _ [7, 1, 8, 9, 6, 10, 59, 60, 61, 62, 63, 64, 65, 66, 67, 68, 69, 70, 71, 72, 73, 74, 75, 76, 77, 78] (by decide +kernel) (by decide +kernel)
set_option maxRecDepth 20000 in
theorem gX4_trust_X4_isPerson : GoodIn wsX4_trust (wsV RX4 68 RX4 yX4_isPerson wsX4_isPerson) := goodIn_app (goodIn_of _ (by decide +kernel)) ggX4_trust_X4_isPerson
set_option maxRecDepth 20000 in
theorem ggX4_trust_X4_isThing : GoodIn wsX4_trust wsX4_isThing := goodIn_r _ [13, 8, 9, 6, 10] (by decide +kernel) (by decide +kernel)
set_option maxRecDepth 20000 in
theorem gX4_trust_X4_isThing : GoodIn wsX4_trust (va_wsS RX4 94 yX4_isThing wsX4_isThing) := goodIn_app (goodIn_of _ (by decide +kernel)) ggX4_trust_X4_isThing
set_option maxRecDepth 20000 in
theorem ggX4_trust_X0_isKnownBy : GoodIn wsX4_trust wsX0_isKnownBy := goodIn_r _ [17, 18, 19, 6, 20, 69, 70, 71, 72, 73, 74, 75, 76, 77, 78] (by decide +kernel) (by decide +kernel)
set_option maxRecDepth 20000 in
theorem gX4_trust_X0_isKnownBy_n97 : GoodIn wsX4_trust (wsX0_isKnownBy) := ggX4_trust_X0_isKnownBy
set_option maxRecDepth 20000 in
theorem ggX4_trust_X1_keep : GoodIn wsX4_trust wsX1_keep := goodIn_r _ [24, 25, 26, 27, 28, 29, 30, 31, 32, 33, 34, 35, 36, 37, 38, 69, 70, 71, 72, 73, 74, 75, 76, 77, 78, 79, 80, 81, 82, 83, 84] (by decide +kernel) (by decide +kernel)
set_option maxRecDepth 20000 in
theorem gX4_trust_X1_keep_n153 : GoodIn wsX4_trust (wsX1_keep) := ggX4_trust_X1_keep
set_option maxRecDepth 20000 in
theorem ggX4_trust_X0_learn : GoodIn wsX4_trust wsX0_learn := goodIn_r _ [41, 18, 42, 43, 44, 19, 6, 20, 69, 70, 71, 72, 73, 74, 75, 76, 77, 78] (by decide +kernel) (by decide +kernel)
set_option maxRecDepth 20000 in
theorem gX4_trust_X0_learn_n156 : GoodIn wsX4_trust (wsX0_learn) := ggX4_trust_X0_learn
set_option maxRecDepth 20000 in
theorem ggX4_trust_X0_rankOf : GoodIn wsX4_trust wsX0_rankOf := goodIn_r _ [47, 42, 48, 6, 49, 50, 51, 52, 53, 54, 55, 56, 57, 58, 69, 70, 71, 72, 73, 74, 75, 76, 77, 78] (by decide +kernel) (by decide +kernel)
set_option maxRecDepth 20000 in
theorem gX4_trust_X0_rankOf_n87 : GoodIn wsX4_trust (wsX0_rankOf) := ggX4_trust_X0_rankOf
theorem dX4_trust_0 : decode cX4_trust 0 = .ok (.aload_n 0, 1) := by decide +kernel
theorem dX4_trust_1 : decode cX4_trust 1 = .ok (.iload_n 1, 1) := by decide +kernel
theorem dX4_trust_2 : decode cX4_trust 2 = .ok (.invokevirtual 68, 3) := by decide +kernel
theorem dX4_trust_5 : decode cX4_trust 5 = .ok (.ifCond .eq 10, 3) := by decide +kernel
theorem dX4_trust_8 : decode cX4_trust 8 = .ok (.iload_n 2, 1) := by decide +kernel
theorem dX4_trust_9 : decode cX4_trust 9 = .ok (.invokestatic 94, 3) := by decide +kernel
theorem dX4_trust_12 : decode cX4_trust 12 = .ok (.ifCond .ne 5, 3) := by decide +kernel
theorem dX4_trust_15 : decode cX4_trust 15 = .ok (.iconst (-1), 1) := by decide +kernel
theorem dX4_trust_16 : decode cX4_trust 16 = .ok (.ireturn, 1) := by decide +kernel
theorem dX4_trust_17 : decode cX4_trust 17 = .ok (.aload_n 0, 1) := by decide +kernel
theorem dX4_trust_18 : decode cX4_trust 18 = .ok (.getfield 10, 3) := by decide +kernel
theorem dX4_trust_21 : decode cX4_trust 21 = .ok (.iload_n 1, 1) := by decide +kernel
theorem dX4_trust_22 : decode cX4_trust 22 = .ok (.iload_n 2, 1) := by decide +kernel
theorem dX4_trust_23 : decode cX4_trust 23 = .ok (.invokevirtual 97, 3) := by decide +kernel
theorem dX4_trust_26 : decode cX4_trust 26 = .ok (.ifCond .eq 6, 3) := by decide +kernel
theorem dX4_trust_29 : decode cX4_trust 29 = .ok (.bipush (-2), 2) := by decide +kernel
theorem dX4_trust_31 : decode cX4_trust 31 = .ok (.ireturn, 1) := by decide +kernel
theorem dX4_trust_32 : decode cX4_trust 32 = .ok (.aload_n 0, 1) := by decide +kernel
theorem dX4_trust_33 : decode cX4_trust 33 = .ok (.getfield 19, 3) := by decide +kernel
theorem dX4_trust_36 : decode cX4_trust 36 = .ok (.aload_n 0, 1) := by decide +kernel
theorem dX4_trust_37 : decode cX4_trust 37 = .ok (.getfield 10, 3) := by decide +kernel
theorem dX4_trust_40 : decode cX4_trust 40 = .ok (.invokevirtual 153, 3) := by decide +kernel
theorem dX4_trust_43 : decode cX4_trust 43 = .ok (.aload_n 0, 1) := by decide +kernel
theorem dX4_trust_44 : decode cX4_trust 44 = .ok (.getfield 10, 3) := by decide +kernel
theorem dX4_trust_47 : decode cX4_trust 47 = .ok (.iload_n 1, 1) := by decide +kernel
theorem dX4_trust_48 : decode cX4_trust 48 = .ok (.iload_n 2, 1) := by decide +kernel
theorem dX4_trust_49 : decode cX4_trust 49 = .ok (.aload_n 0, 1) := by decide +kernel
theorem dX4_trust_50 : decode cX4_trust 50 = .ok (.getfield 10, 3) := by decide +kernel
theorem dX4_trust_53 : decode cX4_trust 53 = .ok (.getfield 111, 3) := by decide +kernel
theorem dX4_trust_56 : decode cX4_trust 56 = .ok (.invokevirtual 156, 3) := by decide +kernel
theorem dX4_trust_59 : decode cX4_trust 59 = .ok (.aload_n 0, 1) := by decide +kernel
theorem dX4_trust_60 : decode cX4_trust 60 = .ok (.getfield 10, 3) := by decide +kernel
theorem dX4_trust_63 : decode cX4_trust 63 = .ok (.iload_n 1, 1) := by decide +kernel
theorem dX4_trust_64 : decode cX4_trust 64 = .ok (.invokevirtual 87, 3) := by decide +kernel
theorem dX4_trust_67 : decode cX4_trust 67 = .ok (.ireturn, 1) := by decide +kernel
set_option maxRecDepth 20000 in
theorem ggX4_seal_X4_isPerson : GoodIn wsX4_seal wsX4_isPerson := goodIn_r _ [7, 1, 8, 9, 6, 10, 48, 49, 50, 51, 52, 53, 54, 55, 56, 57, 58, 59, 60, 61, 62, 63, 64, 65, 66, 67] (by decide +kernel) (by decide +kernel)
set_option maxRecDepth 20000 in
theorem gX4_seal_X4_isPerson : GoodIn wsX4_seal (wsV RX4 68 RX4 yX4_isPerson wsX4_isPerson) := goodIn_app (goodIn_of _ (by decide +kernel)) ggX4_seal_X4_isPerson
set_option maxRecDepth 20000 in
theorem ggX4_seal_X4_isThing : GoodIn wsX4_seal wsX4_isThing := goodIn_r _ [13, 8, 9, 6, 10] (by decide +kernel) (by decide +kernel)
set_option maxRecDepth 20000 in
theorem gX4_seal_X4_isThing : GoodIn wsX4_seal (va_wsS RX4 94 yX4_isThing wsX4_isThing) := goodIn_app (goodIn_of _ (by decide +kernel)) ggX4_seal_X4_isThing
set_option maxRecDepth 20000 in
theorem ggX4_seal_X0_isKnownBy : GoodIn wsX4_seal wsX0_isKnownBy := goodIn_r _ [17, 18, 19, 6, 20, 58, 59, 60, 61, 62, 63, 64, 65, 66, 67] (by decide +kernel) (by decide +kernel)
set_option maxRecDepth 20000 in
theorem gX4_seal_X0_isKnownBy_n97 : GoodIn wsX4_seal (wsX0_isKnownBy) := ggX4_seal_X0_isKnownBy
set_option maxRecDepth 20000 in
theorem ggX4_seal_X0_strengthOf : GoodIn wsX4_seal wsX0_strengthOf := goodIn_r _ [23, 24, 58, 59, 60, 61, 62, 63, 64, 65, 66, 67] (by decide +kernel) (by decide +kernel)
set_option maxRecDepth 20000 in
theorem gX4_seal_X0_strengthOf_n101 : GoodIn wsX4_seal (wsX0_strengthOf) := ggX4_seal_X0_strengthOf
set_option maxRecDepth 20000 in
theorem ggX4_seal_X1_keep : GoodIn wsX4_seal wsX1_keep := goodIn_r _ [28, 29, 30, 31, 32, 33, 34, 35, 36, 37, 38, 39, 40, 41, 42, 58, 59, 60, 61, 62, 63, 64, 65, 66, 67, 68, 69, 70, 71, 72, 73] (by decide +kernel) (by decide +kernel)
set_option maxRecDepth 20000 in
theorem gX4_seal_X1_keep_n153 : GoodIn wsX4_seal (wsX1_keep) := ggX4_seal_X1_keep
set_option maxRecDepth 20000 in
theorem ggX4_seal_X0_learn : GoodIn wsX4_seal wsX0_learn := goodIn_r _ [45, 18, 24, 46, 47, 19, 6, 20, 58, 59, 60, 61, 62, 63, 64, 65, 66, 67] (by decide +kernel) (by decide +kernel)
set_option maxRecDepth 20000 in
theorem gX4_seal_X0_learn_n156 : GoodIn wsX4_seal (wsX0_learn) := ggX4_seal_X0_learn
theorem dX4_seal_0 : decode cX4_seal 0 = .ok (.aload_n 0, 1) := by decide +kernel
theorem dX4_seal_1 : decode cX4_seal 1 = .ok (.iload_n 1, 1) := by decide +kernel
theorem dX4_seal_2 : decode cX4_seal 2 = .ok (.invokevirtual 68, 3) := by decide +kernel
theorem dX4_seal_5 : decode cX4_seal 5 = .ok (.ifCond .eq 10, 3) := by decide +kernel
theorem dX4_seal_8 : decode cX4_seal 8 = .ok (.iload_n 2, 1) := by decide +kernel
theorem dX4_seal_9 : decode cX4_seal 9 = .ok (.invokestatic 94, 3) := by decide +kernel
theorem dX4_seal_12 : decode cX4_seal 12 = .ok (.ifCond .ne 5, 3) := by decide +kernel
theorem dX4_seal_15 : decode cX4_seal 15 = .ok (.iconst (-1), 1) := by decide +kernel
theorem dX4_seal_16 : decode cX4_seal 16 = .ok (.ireturn, 1) := by decide +kernel
theorem dX4_seal_17 : decode cX4_seal 17 = .ok (.aload_n 0, 1) := by decide +kernel
theorem dX4_seal_18 : decode cX4_seal 18 = .ok (.getfield 10, 3) := by decide +kernel
theorem dX4_seal_21 : decode cX4_seal 21 = .ok (.iload_n 1, 1) := by decide +kernel
theorem dX4_seal_22 : decode cX4_seal 22 = .ok (.iload_n 2, 1) := by decide +kernel
theorem dX4_seal_23 : decode cX4_seal 23 = .ok (.invokevirtual 97, 3) := by decide +kernel
theorem dX4_seal_26 : decode cX4_seal 26 = .ok (.ifCond .ne 6, 3) := by decide +kernel
theorem dX4_seal_29 : decode cX4_seal 29 = .ok (.bipush (-2), 2) := by decide +kernel
theorem dX4_seal_31 : decode cX4_seal 31 = .ok (.ireturn, 1) := by decide +kernel
theorem dX4_seal_32 : decode cX4_seal 32 = .ok (.aload_n 0, 1) := by decide +kernel
theorem dX4_seal_33 : decode cX4_seal 33 = .ok (.getfield 10, 3) := by decide +kernel
theorem dX4_seal_36 : decode cX4_seal 36 = .ok (.iload_n 1, 1) := by decide +kernel
theorem dX4_seal_37 : decode cX4_seal 37 = .ok (.iload_n 2, 1) := by decide +kernel
theorem dX4_seal_38 : decode cX4_seal 38 = .ok (.invokevirtual 101, 3) := by decide +kernel
theorem dX4_seal_41 : decode cX4_seal 41 = .ok (.istore_n 3, 1) := by decide +kernel
theorem dX4_seal_42 : decode cX4_seal 42 = .ok (.aload_n 0, 1) := by decide +kernel
theorem dX4_seal_43 : decode cX4_seal 43 = .ok (.getfield 19, 3) := by decide +kernel
theorem dX4_seal_46 : decode cX4_seal 46 = .ok (.aload_n 0, 1) := by decide +kernel
theorem dX4_seal_47 : decode cX4_seal 47 = .ok (.getfield 10, 3) := by decide +kernel
theorem dX4_seal_50 : decode cX4_seal 50 = .ok (.invokevirtual 153, 3) := by decide +kernel
theorem dX4_seal_53 : decode cX4_seal 53 = .ok (.aload_n 0, 1) := by decide +kernel
theorem dX4_seal_54 : decode cX4_seal 54 = .ok (.getfield 10, 3) := by decide +kernel
theorem dX4_seal_57 : decode cX4_seal 57 = .ok (.iload_n 1, 1) := by decide +kernel
theorem dX4_seal_58 : decode cX4_seal 58 = .ok (.iload_n 2, 1) := by decide +kernel
theorem dX4_seal_59 : decode cX4_seal 59 = .ok (.aload_n 0, 1) := by decide +kernel
theorem dX4_seal_60 : decode cX4_seal 60 = .ok (.getfield 10, 3) := by decide +kernel
theorem dX4_seal_63 : decode cX4_seal 63 = .ok (.getfield 111, 3) := by decide +kernel
theorem dX4_seal_66 : decode cX4_seal 66 = .ok (.invokevirtual 156, 3) := by decide +kernel
theorem dX4_seal_69 : decode cX4_seal 69 = .ok (.iload_n 3, 1) := by decide +kernel
theorem dX4_seal_70 : decode cX4_seal 70 = .ok (.ireturn, 1) := by decide +kernel
set_option maxRecDepth 20000 in
theorem ggX4_days_X4_within : GoodIn wsX4_days wsX4_within := goodIn_r _ [6] (by decide +kernel) (by decide +kernel)
set_option maxRecDepth 20000 in
theorem gX4_days_X4_within : GoodIn wsX4_days (va_wsS RX4 53 yX4_within wsX4_within) := goodIn_app (goodIn_of _ (by decide +kernel)) ggX4_days_X4_within
set_option maxRecDepth 20000 in
theorem ggX4_days_X4_isHeat : GoodIn wsX4_days wsX4_isHeat := goodIn_r _ [9, 3, 4, 5, 6] (by decide +kernel) (by decide +kernel)
set_option maxRecDepth 20000 in
theorem gX4_days_X4_isHeat : GoodIn wsX4_days (va_wsS RX4 160 yX4_isHeat wsX4_isHeat) := goodIn_app (goodIn_of _ (by decide +kernel)) ggX4_days_X4_isHeat
set_option maxRecDepth 20000 in
theorem ggX4_days_X1_keep : GoodIn wsX4_days wsX1_keep := goodIn_r _ [13, 14, 15, 16, 17, 18, 19, 20, 21, 22, 23, 24, 25, 26, 27, 96, 97, 98, 99, 100, 101, 102, 103, 104, 105, 106, 107, 108, 109, 110, 111] (by decide +kernel) (by decide +kernel)
set_option maxRecDepth 20000 in
theorem gX4_days_X1_keep_n153 : GoodIn wsX4_days (wsX1_keep) := ggX4_days_X1_keep
set_option maxRecDepth 20000 in
theorem ggX4_days_X0_live : GoodIn wsX4_days wsX0_live := goodIn_r _ [31, 32, 33, 34, 35, 36, 37, 38, 5, 39, 40, 41, 42, 43, 44, 45, 46, 47, 48, 49, 29, 50, 51, 52, 53, 54, 55, 56, 57, 58, 59, 60, 61, 62, 63, 64, 65, 66, 67, 68, 69, 70, 71, 72, 73, 74, 75, 76, 77, 78, 79, 80, 81, 82, 96, 97, 98, 99, 100, 101, 102, 103, 104, 105] (by decide +kernel) (by decide +kernel)
set_option maxRecDepth 20000 in
theorem gX4_days_X0_live_n163 : GoodIn wsX4_days (wsX0_live) := ggX4_days_X0_live
set_option maxRecDepth 20000 in
theorem ggX4_days_X0_timesKnown : GoodIn wsX4_days wsX0_timesKnown := goodIn_r _ [85, 32, 51, 67, 68, 69, 70, 71, 72, 73, 96, 97, 98, 99, 100, 101, 102, 103, 104, 105] (by decide +kernel) (by decide +kernel)
set_option maxRecDepth 20000 in
theorem gX4_days_X0_timesKnown_n137 : GoodIn wsX4_days (wsX0_timesKnown) := ggX4_days_X0_timesKnown
theorem dX4_days_0 : decode cX4_days 0 = .ok (.iload_n 1, 1) := by decide +kernel
theorem dX4_days_1 : decode cX4_days 1 = .ok (.iconst 1, 1) := by decide +kernel
theorem dX4_days_2 : decode cX4_days 2 = .ok (.bipush 40, 2) := by decide +kernel
theorem dX4_days_4 : decode cX4_days 4 = .ok (.invokestatic 53, 3) := by decide +kernel
theorem dX4_days_7 : decode cX4_days 7 = .ok (.ifCond .eq 10, 3) := by decide +kernel
theorem dX4_days_10 : decode cX4_days 10 = .ok (.iload_n 2, 1) := by decide +kernel
theorem dX4_days_11 : decode cX4_days 11 = .ok (.invokestatic 160, 3) := by decide +kernel
theorem dX4_days_14 : decode cX4_days 14 = .ok (.ifCond .ne 5, 3) := by decide +kernel
theorem dX4_days_17 : decode cX4_days 17 = .ok (.iconst (-1), 1) := by decide +kernel
theorem dX4_days_18 : decode cX4_days 18 = .ok (.ireturn, 1) := by decide +kernel
theorem dX4_days_19 : decode cX4_days 19 = .ok (.aload_n 0, 1) := by decide +kernel
theorem dX4_days_20 : decode cX4_days 20 = .ok (.getfield 10, 3) := by decide +kernel
theorem dX4_days_23 : decode cX4_days 23 = .ok (.getfield 134, 3) := by decide +kernel
theorem dX4_days_26 : decode cX4_days 26 = .ok (.iload_n 1, 1) := by decide +kernel
theorem dX4_days_27 : decode cX4_days 27 = .ok (.iadd, 1) := by decide +kernel
theorem dX4_days_28 : decode cX4_days 28 = .ok (.sipush 9999, 3) := by decide +kernel
theorem dX4_days_31 : decode cX4_days 31 = .ok (.if_icmp .le 6, 3) := by decide +kernel
theorem dX4_days_34 : decode cX4_days 34 = .ok (.bipush (-3), 2) := by decide +kernel
theorem dX4_days_36 : decode cX4_days 36 = .ok (.ireturn, 1) := by decide +kernel
theorem dX4_days_37 : decode cX4_days 37 = .ok (.iconst 0, 1) := by decide +kernel
theorem dX4_days_38 : decode cX4_days 38 = .ok (.istore_n 3, 1) := by decide +kernel
theorem dX4_days_39 : decode cX4_days 39 = .ok (.iload_n 3, 1) := by decide +kernel
theorem dX4_days_40 : decode cX4_days 40 = .ok (.iload_n 1, 1) := by decide +kernel
theorem dX4_days_41 : decode cX4_days 41 = .ok (.if_icmp .ge 29, 3) := by decide +kernel
theorem dX4_days_44 : decode cX4_days 44 = .ok (.aload_n 0, 1) := by decide +kernel
theorem dX4_days_45 : decode cX4_days 45 = .ok (.getfield 19, 3) := by decide +kernel
theorem dX4_days_48 : decode cX4_days 48 = .ok (.aload_n 0, 1) := by decide +kernel
theorem dX4_days_49 : decode cX4_days 49 = .ok (.getfield 10, 3) := by decide +kernel
theorem dX4_days_52 : decode cX4_days 52 = .ok (.invokevirtual 153, 3) := by decide +kernel
theorem dX4_days_55 : decode cX4_days 55 = .ok (.aload_n 0, 1) := by decide +kernel
theorem dX4_days_56 : decode cX4_days 56 = .ok (.getfield 10, 3) := by decide +kernel
theorem dX4_days_59 : decode cX4_days 59 = .ok (.iload_n 2, 1) := by decide +kernel
theorem dX4_days_60 : decode cX4_days 60 = .ok (.invokevirtual 163, 3) := by decide +kernel
theorem dX4_days_63 : decode cX4_days 63 = .ok (.pop, 1) := by decide +kernel
theorem dX4_days_64 : decode cX4_days 64 = .ok (.iinc 3 1, 3) := by decide +kernel
theorem dX4_days_67 : decode cX4_days 67 = .ok (.goto (-28), 3) := by decide +kernel
theorem dX4_days_70 : decode cX4_days 70 = .ok (.aload_n 0, 1) := by decide +kernel
theorem dX4_days_71 : decode cX4_days 71 = .ok (.getfield 10, 3) := by decide +kernel
theorem dX4_days_74 : decode cX4_days 74 = .ok (.invokevirtual 137, 3) := by decide +kernel
theorem dX4_days_77 : decode cX4_days 77 = .ok (.ireturn, 1) := by decide +kernel
set_option maxRecDepth 20000 in
theorem ggX4_drift_X4_within : GoodIn wsX4_drift wsX4_within := goodIn_r _ [6] (by decide +kernel) (by decide +kernel)
set_option maxRecDepth 20000 in
theorem gX4_drift_X4_within : GoodIn wsX4_drift (va_wsS RX4 53 yX4_within wsX4_within) := goodIn_app (goodIn_of _ (by decide +kernel)) ggX4_drift_X4_within
set_option maxRecDepth 20000 in
theorem ggX4_drift_X1_keep : GoodIn wsX4_drift wsX1_keep := goodIn_r _ [10, 11, 12, 13, 14, 15, 16, 17, 18, 19, 20, 21, 22, 23, 24, 100, 101, 102, 103, 104, 105, 106, 107, 108, 109, 110, 111, 112, 113, 114, 115] (by decide +kernel) (by decide +kernel)
set_option maxRecDepth 20000 in
theorem gX4_drift_X1_keep_n153 : GoodIn wsX4_drift (wsX1_keep) := ggX4_drift_X1_keep
set_option maxRecDepth 20000 in
theorem ggX4_drift_X0_drawHeat : GoodIn wsX4_drift wsX0_drawHeat := goodIn_r _ [28, 29, 30, 31, 32, 100, 101, 102, 103, 104, 105, 106, 107, 108, 109] (by decide +kernel) (by decide +kernel)
set_option maxRecDepth 20000 in
theorem gX4_drift_X0_drawHeat_n166 : GoodIn wsX4_drift (wsX0_drawHeat) := ggX4_drift_X0_drawHeat
set_option maxRecDepth 20000 in
theorem ggX4_drift_X0_live : GoodIn wsX4_drift wsX0_live := goodIn_r _ [35, 36, 37, 38, 39, 40, 41, 42, 5, 43, 44, 45, 46, 47, 48, 49, 50, 51, 52, 53, 26, 54, 55, 56, 57, 58, 59, 60, 61, 62, 63, 64, 65, 66, 67, 68, 69, 70, 71, 72, 73, 74, 75, 76, 77, 78, 79, 80, 81, 82, 83, 84, 85, 86, 100, 101, 102, 103, 104, 105, 106, 107, 108, 109] (by decide +kernel) (by decide +kernel)
set_option maxRecDepth 20000 in
theorem gX4_drift_X0_live_n163 : GoodIn wsX4_drift (wsX0_live) := ggX4_drift_X0_live
set_option maxRecDepth 20000 in
theorem ggX4_drift_X0_timesKnown : GoodIn wsX4_drift wsX0_timesKnown := goodIn_r _ [89, 36, 55, 71, 72, 73, 74, 75, 76, 77, 100, 101, 102, 103, 104, 105, 106, 107, 108, 109] (by decide +kernel) (by decide +kernel)
set_option maxRecDepth 20000 in
theorem gX4_drift_X0_timesKnown_n137 : GoodIn wsX4_drift (wsX0_timesKnown) := ggX4_drift_X0_timesKnown
theorem dX4_drift_0 : decode cX4_drift 0 = .ok (.iload_n 1, 1) := by decide +kernel
theorem dX4_drift_1 : decode cX4_drift 1 = .ok (.iconst 1, 1) := by decide +kernel
theorem dX4_drift_2 : decode cX4_drift 2 = .ok (.bipush 40, 2) := by decide +kernel
theorem dX4_drift_4 : decode cX4_drift 4 = .ok (.invokestatic 53, 3) := by decide +kernel
theorem dX4_drift_7 : decode cX4_drift 7 = .ok (.ifCond .ne 5, 3) := by decide +kernel
theorem dX4_drift_10 : decode cX4_drift 10 = .ok (.iconst (-1), 1) := by decide +kernel
theorem dX4_drift_11 : decode cX4_drift 11 = .ok (.ireturn, 1) := by decide +kernel
theorem dX4_drift_12 : decode cX4_drift 12 = .ok (.aload_n 0, 1) := by decide +kernel
theorem dX4_drift_13 : decode cX4_drift 13 = .ok (.getfield 10, 3) := by decide +kernel
theorem dX4_drift_16 : decode cX4_drift 16 = .ok (.getfield 134, 3) := by decide +kernel
theorem dX4_drift_19 : decode cX4_drift 19 = .ok (.iload_n 1, 1) := by decide +kernel
theorem dX4_drift_20 : decode cX4_drift 20 = .ok (.iadd, 1) := by decide +kernel
theorem dX4_drift_21 : decode cX4_drift 21 = .ok (.sipush 9999, 3) := by decide +kernel
theorem dX4_drift_24 : decode cX4_drift 24 = .ok (.if_icmp .le 6, 3) := by decide +kernel
theorem dX4_drift_27 : decode cX4_drift 27 = .ok (.bipush (-3), 2) := by decide +kernel
theorem dX4_drift_29 : decode cX4_drift 29 = .ok (.ireturn, 1) := by decide +kernel
theorem dX4_drift_30 : decode cX4_drift 30 = .ok (.iconst 0, 1) := by decide +kernel
theorem dX4_drift_31 : decode cX4_drift 31 = .ok (.istore_n 2, 1) := by decide +kernel
theorem dX4_drift_32 : decode cX4_drift 32 = .ok (.iload_n 2, 1) := by decide +kernel
theorem dX4_drift_33 : decode cX4_drift 33 = .ok (.iload_n 1, 1) := by decide +kernel
theorem dX4_drift_34 : decode cX4_drift 34 = .ok (.if_icmp .ge 35, 3) := by decide +kernel
theorem dX4_drift_37 : decode cX4_drift 37 = .ok (.aload_n 0, 1) := by decide +kernel
theorem dX4_drift_38 : decode cX4_drift 38 = .ok (.getfield 19, 3) := by decide +kernel
theorem dX4_drift_41 : decode cX4_drift 41 = .ok (.aload_n 0, 1) := by decide +kernel
theorem dX4_drift_42 : decode cX4_drift 42 = .ok (.getfield 10, 3) := by decide +kernel
theorem dX4_drift_45 : decode cX4_drift 45 = .ok (.invokevirtual 153, 3) := by decide +kernel
theorem dX4_drift_48 : decode cX4_drift 48 = .ok (.aload_n 0, 1) := by decide +kernel
theorem dX4_drift_49 : decode cX4_drift 49 = .ok (.getfield 10, 3) := by decide +kernel
theorem dX4_drift_52 : decode cX4_drift 52 = .ok (.aload_n 0, 1) := by decide +kernel
theorem dX4_drift_53 : decode cX4_drift 53 = .ok (.getfield 10, 3) := by decide +kernel
theorem dX4_drift_56 : decode cX4_drift 56 = .ok (.invokevirtual 166, 3) := by decide +kernel
theorem dX4_drift_59 : decode cX4_drift 59 = .ok (.invokevirtual 163, 3) := by decide +kernel
theorem dX4_drift_62 : decode cX4_drift 62 = .ok (.pop, 1) := by decide +kernel
theorem dX4_drift_63 : decode cX4_drift 63 = .ok (.iinc 2 1, 3) := by decide +kernel
theorem dX4_drift_66 : decode cX4_drift 66 = .ok (.goto (-34), 3) := by decide +kernel
theorem dX4_drift_69 : decode cX4_drift 69 = .ok (.aload_n 0, 1) := by decide +kernel
theorem dX4_drift_70 : decode cX4_drift 70 = .ok (.getfield 10, 3) := by decide +kernel
theorem dX4_drift_73 : decode cX4_drift 73 = .ok (.invokevirtual 137, 3) := by decide +kernel
theorem dX4_drift_76 : decode cX4_drift 76 = .ok (.ireturn, 1) := by decide +kernel
set_option maxRecDepth 20000 in
theorem ggX4_undo_X1_takeBack : GoodIn wsX4_undo wsX1_takeBack := goodIn_r _ [6, 7, 8, 9, 10, 11, 12, 13, 14, 15, 16, 27, 28, 29, 30, 31, 32, 33, 34, 35, 36, 37, 38, 39, 40, 41, 42] (by decide +kernel) (by decide +kernel)
set_option maxRecDepth 20000 in
theorem gX4_undo_X1_takeBack_n169 : GoodIn wsX4_undo (wsX1_takeBack) := ggX4_undo_X1_takeBack
theorem dX4_undo_0 : decode cX4_undo 0 = .ok (.aload_n 0, 1) := by decide +kernel
theorem dX4_undo_1 : decode cX4_undo 1 = .ok (.getfield 19, 3) := by decide +kernel
theorem dX4_undo_4 : decode cX4_undo 4 = .ok (.getfield 150, 3) := by decide +kernel
theorem dX4_undo_7 : decode cX4_undo 7 = .ok (.ifCond .ne 6, 3) := by decide +kernel
theorem dX4_undo_10 : decode cX4_undo 10 = .ok (.bipush (-4), 2) := by decide +kernel
theorem dX4_undo_12 : decode cX4_undo 12 = .ok (.ireturn, 1) := by decide +kernel
theorem dX4_undo_13 : decode cX4_undo 13 = .ok (.aload_n 0, 1) := by decide +kernel
theorem dX4_undo_14 : decode cX4_undo 14 = .ok (.getfield 19, 3) := by decide +kernel
theorem dX4_undo_17 : decode cX4_undo 17 = .ok (.aload_n 0, 1) := by decide +kernel
theorem dX4_undo_18 : decode cX4_undo 18 = .ok (.getfield 10, 3) := by decide +kernel
theorem dX4_undo_21 : decode cX4_undo 21 = .ok (.invokevirtual 169, 3) := by decide +kernel
theorem dX4_undo_24 : decode cX4_undo 24 = .ok (.aload_n 0, 1) := by decide +kernel
theorem dX4_undo_25 : decode cX4_undo 25 = .ok (.getfield 19, 3) := by decide +kernel
theorem dX4_undo_28 : decode cX4_undo 28 = .ok (.getfield 150, 3) := by decide +kernel
theorem dX4_undo_31 : decode cX4_undo 31 = .ok (.ireturn, 1) := by decide +kernel
theorem dX4_seed_0 : decode cX4_seed 0 = .ok (.iload_n 1, 1) := by decide +kernel
theorem dX4_seed_1 : decode cX4_seed 1 = .ok (.ifCond .ge 5, 3) := by decide +kernel
theorem dX4_seed_4 : decode cX4_seed 4 = .ok (.iconst (-1), 1) := by decide +kernel
theorem dX4_seed_5 : decode cX4_seed 5 = .ok (.ireturn, 1) := by decide +kernel
theorem dX4_seed_6 : decode cX4_seed 6 = .ok (.aload_n 0, 1) := by decide +kernel
theorem dX4_seed_7 : decode cX4_seed 7 = .ok (.getfield 10, 3) := by decide +kernel
theorem dX4_seed_10 : decode cX4_seed 10 = .ok (.getfield 127, 3) := by decide +kernel
theorem dX4_seed_13 : decode cX4_seed 13 = .ok (.istore_n 2, 1) := by decide +kernel
theorem dX4_seed_14 : decode cX4_seed 14 = .ok (.aload_n 0, 1) := by decide +kernel
theorem dX4_seed_15 : decode cX4_seed 15 = .ok (.getfield 10, 3) := by decide +kernel
theorem dX4_seed_18 : decode cX4_seed 18 = .ok (.iload_n 1, 1) := by decide +kernel
theorem dX4_seed_19 : decode cX4_seed 19 = .ok (.putfield 127, 3) := by decide +kernel
theorem dX4_seed_22 : decode cX4_seed 22 = .ok (.iload_n 2, 1) := by decide +kernel
theorem dX4_seed_23 : decode cX4_seed 23 = .ok (.ireturn, 1) := by decide +kernel
set_option maxRecDepth 20000 in
theorem ggX4_ahead_X4_isThing : GoodIn wsX4_ahead wsX4_isThing := goodIn_r _ [6, 7, 8, 5, 9] (by decide +kernel) (by decide +kernel)
set_option maxRecDepth 20000 in
theorem gX4_ahead_X4_isThing : GoodIn wsX4_ahead (va_wsS RX4 94 yX4_isThing wsX4_isThing) := goodIn_app (goodIn_of _ (by decide +kernel)) ggX4_ahead_X4_isThing
set_option maxRecDepth 20000 in
theorem ggX4_ahead_X4_within : GoodIn wsX4_ahead wsX4_within := goodIn_r _ [9] (by decide +kernel) (by decide +kernel)
set_option maxRecDepth 20000 in
theorem gX4_ahead_X4_within : GoodIn wsX4_ahead (va_wsS RX4 53 yX4_within wsX4_within) := goodIn_app (goodIn_of _ (by decide +kernel)) ggX4_ahead_X4_within
set_option maxRecDepth 20000 in
theorem ggX4_ahead_X4_isHeat : GoodIn wsX4_ahead wsX4_isHeat := goodIn_r _ [12, 7, 8, 5, 9] (by decide +kernel) (by decide +kernel)
set_option maxRecDepth 20000 in
theorem gX4_ahead_X4_isHeat : GoodIn wsX4_ahead (va_wsS RX4 160 yX4_isHeat wsX4_isHeat) := goodIn_app (goodIn_of _ (by decide +kernel)) ggX4_ahead_X4_isHeat
set_option maxRecDepth 20000 in
theorem ggX4_ahead_X0_become : GoodIn wsX4_ahead wsX0_become := goodIn_r _ [16, 17, 18, 19, 20, 21, 22, 23, 24, 25, 26, 27, 28, 29, 93, 94, 95, 96, 97, 98, 99, 100, 101, 102] (by decide +kernel) (by decide +kernel)
set_option maxRecDepth 20000 in
theorem gX4_ahead_X0_become_n130 : GoodIn wsX4_ahead (wsX0_become) := ggX4_ahead_X0_become
set_option maxRecDepth 20000 in
theorem ggX4_ahead_X0_liveDays : GoodIn wsX4_ahead wsX0_liveDays := goodIn_r _ [32, 33, 34, 35, 14, 36, 25, 24, 17, 28, 37, 27, 38, 5, 39, 40, 41, 42, 43, 44, 45, 46, 47, 48, 49, 50, 23, 51, 52, 53, 54, 55, 56, 57, 58, 22, 59, 60, 61, 62, 63, 64, 65, 66, 67, 68, 69, 70, 71, 72, 73, 74, 75, 76, 77, 78, 79, 26, 93, 94, 95, 96, 97, 98, 99, 100, 101, 102] (by decide +kernel) (by decide +kernel)
set_option maxRecDepth 20000 in
theorem gX4_ahead_X0_liveDays_n172 : GoodIn wsX4_ahead (wsX0_liveDays) := ggX4_ahead_X0_liveDays
set_option maxRecDepth 20000 in
theorem ggX4_ahead_X0_knowersOf : GoodIn wsX4_ahead wsX0_knowersOf := goodIn_r _ [82, 25, 23, 93, 94, 95, 96, 97, 98, 99, 100, 101, 102] (by decide +kernel) (by decide +kernel)
set_option maxRecDepth 20000 in
theorem gX4_ahead_X0_knowersOf_n104 : GoodIn wsX4_ahead (wsX0_knowersOf) := ggX4_ahead_X0_knowersOf
theorem dX4_ahead_0 : decode cX4_ahead 0 = .ok (.iload_n 1, 1) := by decide +kernel
theorem dX4_ahead_1 : decode cX4_ahead 1 = .ok (.invokestatic 94, 3) := by decide +kernel
theorem dX4_ahead_4 : decode cX4_ahead 4 = .ok (.ifCond .eq 20, 3) := by decide +kernel
theorem dX4_ahead_7 : decode cX4_ahead 7 = .ok (.iload_n 2, 1) := by decide +kernel
theorem dX4_ahead_8 : decode cX4_ahead 8 = .ok (.iconst 0, 1) := by decide +kernel
theorem dX4_ahead_9 : decode cX4_ahead 9 = .ok (.bipush 60, 2) := by decide +kernel
theorem dX4_ahead_11 : decode cX4_ahead 11 = .ok (.invokestatic 53, 3) := by decide +kernel
theorem dX4_ahead_14 : decode cX4_ahead 14 = .ok (.ifCond .eq 10, 3) := by decide +kernel
theorem dX4_ahead_17 : decode cX4_ahead 17 = .ok (.iload_n 3, 1) := by decide +kernel
theorem dX4_ahead_18 : decode cX4_ahead 18 = .ok (.invokestatic 160, 3) := by decide +kernel
theorem dX4_ahead_21 : decode cX4_ahead 21 = .ok (.ifCond .ne 5, 3) := by decide +kernel
theorem dX4_ahead_24 : decode cX4_ahead 24 = .ok (.iconst (-1), 1) := by decide +kernel
theorem dX4_ahead_25 : decode cX4_ahead 25 = .ok (.ireturn, 1) := by decide +kernel
theorem dX4_ahead_26 : decode cX4_ahead 26 = .ok (.aload_n 0, 1) := by decide +kernel
theorem dX4_ahead_27 : decode cX4_ahead 27 = .ok (.getfield 29, 3) := by decide +kernel
theorem dX4_ahead_30 : decode cX4_ahead 30 = .ok (.aload_n 0, 1) := by decide +kernel
theorem dX4_ahead_31 : decode cX4_ahead 31 = .ok (.getfield 10, 3) := by decide +kernel
theorem dX4_ahead_34 : decode cX4_ahead 34 = .ok (.invokevirtual 130, 3) := by decide +kernel
theorem dX4_ahead_37 : decode cX4_ahead 37 = .ok (.aload_n 0, 1) := by decide +kernel
theorem dX4_ahead_38 : decode cX4_ahead 38 = .ok (.getfield 29, 3) := by decide +kernel
theorem dX4_ahead_41 : decode cX4_ahead 41 = .ok (.iload_n 2, 1) := by decide +kernel
theorem dX4_ahead_42 : decode cX4_ahead 42 = .ok (.iload_n 3, 1) := by decide +kernel
theorem dX4_ahead_43 : decode cX4_ahead 43 = .ok (.invokevirtual 172, 3) := by decide +kernel
theorem dX4_ahead_46 : decode cX4_ahead 46 = .ok (.pop, 1) := by decide +kernel
theorem dX4_ahead_47 : decode cX4_ahead 47 = .ok (.aload_n 0, 1) := by decide +kernel
theorem dX4_ahead_48 : decode cX4_ahead 48 = .ok (.getfield 29, 3) := by decide +kernel
theorem dX4_ahead_51 : decode cX4_ahead 51 = .ok (.iload_n 1, 1) := by decide +kernel
theorem dX4_ahead_52 : decode cX4_ahead 52 = .ok (.invokevirtual 104, 3) := by decide +kernel
theorem dX4_ahead_55 : decode cX4_ahead 55 = .ok (.ireturn, 1) := by decide +kernel
set_option maxRecDepth 20000 in
theorem ggX4_rankAhead_X4_isPerson : GoodIn wsX4_rankAhead wsX4_isPerson := goodIn_r _ [7, 2, 8, 9, 6, 10, 84, 85, 86, 87, 88, 89, 90, 91, 92, 93, 94, 95, 96, 97, 98, 99, 100, 101, 102, 103] (by decide +kernel) (by decide +kernel)
set_option maxRecDepth 20000 in
theorem gX4_rankAhead_X4_isPerson : GoodIn wsX4_rankAhead (wsV RX4 68 RX4 yX4_isPerson wsX4_isPerson) := goodIn_app (goodIn_of _ (by decide +kernel)) ggX4_rankAhead_X4_isPerson
set_option maxRecDepth 20000 in
theorem ggX4_rankAhead_X4_within : GoodIn wsX4_rankAhead wsX4_within := goodIn_r _ [10] (by decide +kernel) (by decide +kernel)
set_option maxRecDepth 20000 in
theorem gX4_rankAhead_X4_within : GoodIn wsX4_rankAhead (va_wsS RX4 53 yX4_within wsX4_within) := goodIn_app (goodIn_of _ (by decide +kernel)) ggX4_rankAhead_X4_within
set_option maxRecDepth 20000 in
theorem ggX4_rankAhead_X4_isHeat : GoodIn wsX4_rankAhead wsX4_isHeat := goodIn_r _ [13, 8, 9, 6, 10] (by decide +kernel) (by decide +kernel)
set_option maxRecDepth 20000 in
theorem gX4_rankAhead_X4_isHeat : GoodIn wsX4_rankAhead (va_wsS RX4 160 yX4_isHeat wsX4_isHeat) := goodIn_app (goodIn_of _ (by decide +kernel)) ggX4_rankAhead_X4_isHeat
set_option maxRecDepth 20000 in
theorem ggX4_rankAhead_X0_become : GoodIn wsX4_rankAhead wsX0_become := goodIn_r _ [17, 18, 19, 20, 21, 22, 23, 24, 25, 26, 27, 28, 29, 30, 94, 95, 96, 97, 98, 99, 100, 101, 102, 103] (by decide +kernel) (by decide +kernel)
set_option maxRecDepth 20000 in
theorem gX4_rankAhead_X0_become_n130 : GoodIn wsX4_rankAhead (wsX0_become) := ggX4_rankAhead_X0_become
set_option maxRecDepth 20000 in
theorem ggX4_rankAhead_X0_liveDays : GoodIn wsX4_rankAhead wsX0_liveDays := goodIn_r _ [33, 34, 35, 36, 15, 37, 26, 25, 18, 29, 38, 28, 39, 6, 40, 41, 42, 43, 44, 45, 46, 47, 48, 49, 50, 51, 24, 52, 53, 54, 55, 56, 57, 58, 59, 23, 60, 61, 62, 63, 64, 65, 66, 67, 68, 69, 70, 71, 72, 73, 74, 75, 76, 77, 78, 79, 80, 27, 94, 95, 96, 97, 98, 99, 100, 101, 102, 103] (by decide +kernel) (by decide +kernel)
set_option maxRecDepth 20000 in
theorem gX4_rankAhead_X0_liveDays_n172 : GoodIn wsX4_rankAhead (wsX0_liveDays) := ggX4_rankAhead_X0_liveDays
set_option maxRecDepth 20000 in
theorem ggX4_rankAhead_X0_rankOf : GoodIn wsX4_rankAhead wsX0_rankOf := goodIn_r _ [83, 25, 53, 6, 54, 55, 43, 66, 67, 68, 69, 70, 71, 72, 94, 95, 96, 97, 98, 99, 100, 101, 102, 103] (by decide +kernel) (by decide +kernel)
set_option maxRecDepth 20000 in
theorem gX4_rankAhead_X0_rankOf_n87 : GoodIn wsX4_rankAhead (wsX0_rankOf) := ggX4_rankAhead_X0_rankOf
theorem dX4_rankAhead_0 : decode cX4_rankAhead 0 = .ok (.aload_n 0, 1) := by decide +kernel
theorem dX4_rankAhead_1 : decode cX4_rankAhead 1 = .ok (.iload_n 1, 1) := by decide +kernel
theorem dX4_rankAhead_2 : decode cX4_rankAhead 2 = .ok (.invokevirtual 68, 3) := by decide +kernel
theorem dX4_rankAhead_5 : decode cX4_rankAhead 5 = .ok (.ifCond .eq 20, 3) := by decide +kernel
theorem dX4_rankAhead_8 : decode cX4_rankAhead 8 = .ok (.iload_n 2, 1) := by decide +kernel
theorem dX4_rankAhead_9 : decode cX4_rankAhead 9 = .ok (.iconst 0, 1) := by decide +kernel
theorem dX4_rankAhead_10 : decode cX4_rankAhead 10 = .ok (.bipush 60, 2) := by decide +kernel
theorem dX4_rankAhead_12 : decode cX4_rankAhead 12 = .ok (.invokestatic 53, 3) := by decide +kernel
theorem dX4_rankAhead_15 : decode cX4_rankAhead 15 = .ok (.ifCond .eq 10, 3) := by decide +kernel
theorem dX4_rankAhead_18 : decode cX4_rankAhead 18 = .ok (.iload_n 3, 1) := by decide +kernel
theorem dX4_rankAhead_19 : decode cX4_rankAhead 19 = .ok (.invokestatic 160, 3) := by decide +kernel
theorem dX4_rankAhead_22 : decode cX4_rankAhead 22 = .ok (.ifCond .ne 5, 3) := by decide +kernel
theorem dX4_rankAhead_25 : decode cX4_rankAhead 25 = .ok (.iconst (-1), 1) := by decide +kernel
theorem dX4_rankAhead_26 : decode cX4_rankAhead 26 = .ok (.ireturn, 1) := by decide +kernel
theorem dX4_rankAhead_27 : decode cX4_rankAhead 27 = .ok (.aload_n 0, 1) := by decide +kernel
theorem dX4_rankAhead_28 : decode cX4_rankAhead 28 = .ok (.getfield 29, 3) := by decide +kernel
theorem dX4_rankAhead_31 : decode cX4_rankAhead 31 = .ok (.aload_n 0, 1) := by decide +kernel
theorem dX4_rankAhead_32 : decode cX4_rankAhead 32 = .ok (.getfield 10, 3) := by decide +kernel
theorem dX4_rankAhead_35 : decode cX4_rankAhead 35 = .ok (.invokevirtual 130, 3) := by decide +kernel
theorem dX4_rankAhead_38 : decode cX4_rankAhead 38 = .ok (.aload_n 0, 1) := by decide +kernel
theorem dX4_rankAhead_39 : decode cX4_rankAhead 39 = .ok (.getfield 29, 3) := by decide +kernel
theorem dX4_rankAhead_42 : decode cX4_rankAhead 42 = .ok (.iload_n 2, 1) := by decide +kernel
theorem dX4_rankAhead_43 : decode cX4_rankAhead 43 = .ok (.iload_n 3, 1) := by decide +kernel
theorem dX4_rankAhead_44 : decode cX4_rankAhead 44 = .ok (.invokevirtual 172, 3) := by decide +kernel
theorem dX4_rankAhead_47 : decode cX4_rankAhead 47 = .ok (.pop, 1) := by decide +kernel
theorem dX4_rankAhead_48 : decode cX4_rankAhead 48 = .ok (.aload_n 0, 1) := by decide +kernel
theorem dX4_rankAhead_49 : decode cX4_rankAhead 49 = .ok (.getfield 29, 3) := by decide +kernel
theorem dX4_rankAhead_52 : decode cX4_rankAhead 52 = .ok (.iload_n 1, 1) := by decide +kernel
theorem dX4_rankAhead_53 : decode cX4_rankAhead 53 = .ok (.invokevirtual 87, 3) := by decide +kernel
theorem dX4_rankAhead_56 : decode cX4_rankAhead 56 = .ok (.ireturn, 1) := by decide +kernel
set_option maxRecDepth 20000 in
theorem ggX4_leaks_X4_within : GoodIn wsX4_leaks wsX4_within := goodIn_r _ [6] (by decide +kernel) (by decide +kernel)
set_option maxRecDepth 20000 in
theorem gX4_leaks_X4_within : GoodIn wsX4_leaks (va_wsS RX4 53 yX4_within wsX4_within) := goodIn_app (goodIn_of _ (by decide +kernel)) ggX4_leaks_X4_within
set_option maxRecDepth 20000 in
theorem ggX4_leaks_X4_isHeat : GoodIn wsX4_leaks wsX4_isHeat := goodIn_r _ [9, 3, 4, 5, 6] (by decide +kernel) (by decide +kernel)
set_option maxRecDepth 20000 in
theorem gX4_leaks_X4_isHeat : GoodIn wsX4_leaks (va_wsS RX4 160 yX4_isHeat wsX4_isHeat) := goodIn_app (goodIn_of _ (by decide +kernel)) ggX4_leaks_X4_isHeat
set_option maxRecDepth 20000 in
theorem ggX4_leaks_X0_become : GoodIn wsX4_leaks wsX0_become := goodIn_r _ [13, 14, 15, 16, 17, 18, 19, 20, 21, 22, 23, 24, 25, 26, 87, 88, 89, 90, 91, 92, 93, 94, 95, 96] (by decide +kernel) (by decide +kernel)
set_option maxRecDepth 20000 in
theorem gX4_leaks_X0_become_n130 : GoodIn wsX4_leaks (wsX0_become) := ggX4_leaks_X0_become
set_option maxRecDepth 20000 in
theorem ggX4_leaks_X0_liveDays : GoodIn wsX4_leaks wsX0_liveDays := goodIn_r _ [29, 30, 31, 32, 11, 33, 22, 21, 14, 25, 34, 24, 35, 5, 36, 37, 38, 39, 40, 41, 42, 43, 44, 45, 46, 47, 20, 48, 49, 50, 51, 52, 53, 54, 55, 19, 56, 57, 58, 59, 60, 61, 62, 63, 64, 65, 66, 67, 68, 69, 70, 71, 72, 73, 74, 75, 76, 23, 87, 88, 89, 90, 91, 92, 93, 94, 95, 96] (by decide +kernel) (by decide +kernel)
set_option maxRecDepth 20000 in
theorem gX4_leaks_X0_liveDays_n172 : GoodIn wsX4_leaks (wsX0_liveDays) := ggX4_leaks_X0_liveDays
theorem dX4_leaks_0 : decode cX4_leaks 0 = .ok (.iload_n 1, 1) := by decide +kernel
theorem dX4_leaks_1 : decode cX4_leaks 1 = .ok (.iconst 0, 1) := by decide +kernel
theorem dX4_leaks_2 : decode cX4_leaks 2 = .ok (.bipush 60, 2) := by decide +kernel
theorem dX4_leaks_4 : decode cX4_leaks 4 = .ok (.invokestatic 53, 3) := by decide +kernel
theorem dX4_leaks_7 : decode cX4_leaks 7 = .ok (.ifCond .eq 10, 3) := by decide +kernel
theorem dX4_leaks_10 : decode cX4_leaks 10 = .ok (.iload_n 2, 1) := by decide +kernel
theorem dX4_leaks_11 : decode cX4_leaks 11 = .ok (.invokestatic 160, 3) := by decide +kernel
theorem dX4_leaks_14 : decode cX4_leaks 14 = .ok (.ifCond .ne 5, 3) := by decide +kernel
theorem dX4_leaks_17 : decode cX4_leaks 17 = .ok (.iconst (-1), 1) := by decide +kernel
theorem dX4_leaks_18 : decode cX4_leaks 18 = .ok (.ireturn, 1) := by decide +kernel
theorem dX4_leaks_19 : decode cX4_leaks 19 = .ok (.aload_n 0, 1) := by decide +kernel
theorem dX4_leaks_20 : decode cX4_leaks 20 = .ok (.getfield 29, 3) := by decide +kernel
theorem dX4_leaks_23 : decode cX4_leaks 23 = .ok (.aload_n 0, 1) := by decide +kernel
theorem dX4_leaks_24 : decode cX4_leaks 24 = .ok (.getfield 10, 3) := by decide +kernel
theorem dX4_leaks_27 : decode cX4_leaks 27 = .ok (.invokevirtual 130, 3) := by decide +kernel
theorem dX4_leaks_30 : decode cX4_leaks 30 = .ok (.aload_n 0, 1) := by decide +kernel
theorem dX4_leaks_31 : decode cX4_leaks 31 = .ok (.getfield 29, 3) := by decide +kernel
theorem dX4_leaks_34 : decode cX4_leaks 34 = .ok (.iload_n 1, 1) := by decide +kernel
theorem dX4_leaks_35 : decode cX4_leaks 35 = .ok (.iload_n 2, 1) := by decide +kernel
theorem dX4_leaks_36 : decode cX4_leaks 36 = .ok (.invokevirtual 172, 3) := by decide +kernel
theorem dX4_leaks_39 : decode cX4_leaks 39 = .ok (.ireturn, 1) := by decide +kernel
set_option maxRecDepth 20000 in
theorem ggX4_out_X4_isThing : GoodIn wsX4_out wsX4_isThing := goodIn_r _ [6, 7, 8, 5, 9] (by decide +kernel) (by decide +kernel)
set_option maxRecDepth 20000 in
theorem gX4_out_X4_isThing : GoodIn wsX4_out (va_wsS RX4 94 yX4_isThing wsX4_isThing) := goodIn_app (goodIn_of _ (by decide +kernel)) ggX4_out_X4_isThing
set_option maxRecDepth 20000 in
theorem ggX4_out_X4_isHeat : GoodIn wsX4_out wsX4_isHeat := goodIn_r _ [12, 7, 8, 5, 9] (by decide +kernel) (by decide +kernel)
set_option maxRecDepth 20000 in
theorem gX4_out_X4_isHeat : GoodIn wsX4_out (va_wsS RX4 160 yX4_isHeat wsX4_isHeat) := goodIn_app (goodIn_of _ (by decide +kernel)) ggX4_out_X4_isHeat
set_option maxRecDepth 20000 in
theorem ggX4_out_X0_become : GoodIn wsX4_out wsX0_become := goodIn_r _ [16, 17, 18, 19, 20, 21, 22, 23, 24, 25, 26, 27, 28, 29, 98, 99, 100, 101, 102, 103, 104, 105, 106, 107] (by decide +kernel) (by decide +kernel)
set_option maxRecDepth 20000 in
theorem gX4_out_X0_become_n130 : GoodIn wsX4_out (wsX0_become) := ggX4_out_X0_become
set_option maxRecDepth 20000 in
theorem ggX4_out_X0_firstOut : GoodIn wsX4_out wsX0_firstOut := goodIn_r _ [32, 33, 34, 35, 14, 36, 25, 37, 38, 39, 40, 23, 41, 42, 43, 44, 24, 17, 28, 45, 27, 46, 5, 47, 48, 49, 50, 51, 52, 53, 54, 55, 56, 57, 58, 59, 60, 61, 62, 63, 64, 65, 66, 22, 67, 68, 69, 70, 71, 72, 73, 74, 75, 76, 77, 78, 79, 80, 81, 82, 83, 84, 85, 86, 87, 26, 98, 99, 100, 101, 102, 103, 104, 105, 106, 107] (by decide +kernel) (by decide +kernel)
set_option maxRecDepth 20000 in
theorem gX4_out_X0_firstOut_n175 : GoodIn wsX4_out (wsX0_firstOut) := ggX4_out_X0_firstOut
theorem dX4_out_0 : decode cX4_out 0 = .ok (.iload_n 1, 1) := by decide +kernel
theorem dX4_out_1 : decode cX4_out 1 = .ok (.invokestatic 94, 3) := by decide +kernel
theorem dX4_out_4 : decode cX4_out 4 = .ok (.ifCond .eq 10, 3) := by decide +kernel
theorem dX4_out_7 : decode cX4_out 7 = .ok (.iload_n 2, 1) := by decide +kernel
theorem dX4_out_8 : decode cX4_out 8 = .ok (.invokestatic 160, 3) := by decide +kernel
theorem dX4_out_11 : decode cX4_out 11 = .ok (.ifCond .ne 5, 3) := by decide +kernel
theorem dX4_out_14 : decode cX4_out 14 = .ok (.iconst (-1), 1) := by decide +kernel
theorem dX4_out_15 : decode cX4_out 15 = .ok (.ireturn, 1) := by decide +kernel
theorem dX4_out_16 : decode cX4_out 16 = .ok (.aload_n 0, 1) := by decide +kernel
theorem dX4_out_17 : decode cX4_out 17 = .ok (.getfield 29, 3) := by decide +kernel
theorem dX4_out_20 : decode cX4_out 20 = .ok (.aload_n 0, 1) := by decide +kernel
theorem dX4_out_21 : decode cX4_out 21 = .ok (.getfield 10, 3) := by decide +kernel
theorem dX4_out_24 : decode cX4_out 24 = .ok (.invokevirtual 130, 3) := by decide +kernel
theorem dX4_out_27 : decode cX4_out 27 = .ok (.aload_n 0, 1) := by decide +kernel
theorem dX4_out_28 : decode cX4_out 28 = .ok (.getfield 29, 3) := by decide +kernel
theorem dX4_out_31 : decode cX4_out 31 = .ok (.iload_n 1, 1) := by decide +kernel
theorem dX4_out_32 : decode cX4_out 32 = .ok (.bipush 60, 2) := by decide +kernel
theorem dX4_out_34 : decode cX4_out 34 = .ok (.iload_n 2, 1) := by decide +kernel
theorem dX4_out_35 : decode cX4_out 35 = .ok (.invokevirtual 175, 3) := by decide +kernel
theorem dX4_out_38 : decode cX4_out 38 = .ok (.ireturn, 1) := by decide +kernel
set_option maxRecDepth 20000 in
theorem ggX4_cool_X4_within : GoodIn wsX4_cool wsX4_within := goodIn_r _ [6] (by decide +kernel) (by decide +kernel)
set_option maxRecDepth 20000 in
theorem gX4_cool_X4_within : GoodIn wsX4_cool (va_wsS RX4 53 yX4_within wsX4_within) := goodIn_app (goodIn_of _ (by decide +kernel)) ggX4_cool_X4_within
set_option maxRecDepth 20000 in
theorem ggX4_cool_X0_become : GoodIn wsX4_cool wsX0_become := goodIn_r _ [10, 11, 12, 13, 14, 15, 16, 17, 18, 19, 20, 21, 22, 23, 84, 85, 86, 87, 88, 89, 90, 91, 92, 93] (by decide +kernel) (by decide +kernel)
set_option maxRecDepth 20000 in
theorem gX4_cool_X0_become_n130 : GoodIn wsX4_cool (wsX0_become) := ggX4_cool_X0_become
set_option maxRecDepth 20000 in
theorem ggX4_cool_X0_liveUntilLeaks : GoodIn wsX4_cool wsX0_liveUntilLeaks := goodIn_r _ [26, 27, 28, 29, 8, 30, 19, 18, 11, 22, 31, 21, 32, 5, 33, 34, 35, 36, 37, 38, 39, 40, 41, 42, 43, 44, 17, 45, 46, 47, 48, 49, 50, 51, 52, 16, 53, 54, 55, 56, 57, 58, 59, 60, 61, 62, 63, 64, 65, 66, 67, 68, 69, 70, 71, 72, 73, 20, 84, 85, 86, 87, 88, 89, 90, 91, 92, 93] (by decide +kernel) (by decide +kernel)
set_option maxRecDepth 20000 in
theorem gX4_cool_X0_liveUntilLeaks_n179 : GoodIn wsX4_cool (wsX0_liveUntilLeaks) := ggX4_cool_X0_liveUntilLeaks
theorem dX4_cool_0 : decode cX4_cool 0 = .ok (.iload_n 1, 1) := by decide +kernel
theorem dX4_cool_1 : decode cX4_cool 1 = .ok (.iconst 1, 1) := by decide +kernel
theorem dX4_cool_2 : decode cX4_cool 2 = .ok (.bipush 30, 2) := by decide +kernel
theorem dX4_cool_4 : decode cX4_cool 4 = .ok (.invokestatic 53, 3) := by decide +kernel
theorem dX4_cool_7 : decode cX4_cool 7 = .ok (.ifCond .ne 5, 3) := by decide +kernel
theorem dX4_cool_10 : decode cX4_cool 10 = .ok (.iconst (-1), 1) := by decide +kernel
theorem dX4_cool_11 : decode cX4_cool 11 = .ok (.ireturn, 1) := by decide +kernel
theorem dX4_cool_12 : decode cX4_cool 12 = .ok (.bipush 9, 2) := by decide +kernel
theorem dX4_cool_14 : decode cX4_cool 14 = .ok (.istore_n 2, 1) := by decide +kernel
theorem dX4_cool_15 : decode cX4_cool 15 = .ok (.iload_n 2, 1) := by decide +kernel
theorem dX4_cool_16 : decode cX4_cool 16 = .ok (.ifCond .lt 35, 3) := by decide +kernel
theorem dX4_cool_19 : decode cX4_cool 19 = .ok (.aload_n 0, 1) := by decide +kernel
theorem dX4_cool_20 : decode cX4_cool 20 = .ok (.getfield 29, 3) := by decide +kernel
theorem dX4_cool_23 : decode cX4_cool 23 = .ok (.aload_n 0, 1) := by decide +kernel
theorem dX4_cool_24 : decode cX4_cool 24 = .ok (.getfield 10, 3) := by decide +kernel
theorem dX4_cool_27 : decode cX4_cool 27 = .ok (.invokevirtual 130, 3) := by decide +kernel
theorem dX4_cool_30 : decode cX4_cool 30 = .ok (.aload_n 0, 1) := by decide +kernel
theorem dX4_cool_31 : decode cX4_cool 31 = .ok (.getfield 29, 3) := by decide +kernel
theorem dX4_cool_34 : decode cX4_cool 34 = .ok (.iload_n 1, 1) := by decide +kernel
theorem dX4_cool_35 : decode cX4_cool 35 = .ok (.iload_n 2, 1) := by decide +kernel
theorem dX4_cool_36 : decode cX4_cool 36 = .ok (.iconst 1, 1) := by decide +kernel
theorem dX4_cool_37 : decode cX4_cool 37 = .ok (.invokevirtual 179, 3) := by decide +kernel
theorem dX4_cool_40 : decode cX4_cool 40 = .ok (.ifCond .ne 5, 3) := by decide +kernel
theorem dX4_cool_43 : decode cX4_cool 43 = .ok (.iload_n 2, 1) := by decide +kernel
theorem dX4_cool_44 : decode cX4_cool 44 = .ok (.ireturn, 1) := by decide +kernel
theorem dX4_cool_45 : decode cX4_cool 45 = .ok (.iinc 2 (-1), 3) := by decide +kernel
theorem dX4_cool_48 : decode cX4_cool 48 = .ok (.goto (-33), 3) := by decide +kernel
theorem dX4_cool_51 : decode cX4_cool 51 = .ok (.bipush (-4), 2) := by decide +kernel
theorem dX4_cool_53 : decode cX4_cool 53 = .ok (.ireturn, 1) := by decide +kernel
set_option maxRecDepth 20000 in
theorem ggX4_thick_X4_within : GoodIn wsX4_thick wsX4_within := goodIn_r _ [6] (by decide +kernel) (by decide +kernel)
set_option maxRecDepth 20000 in
theorem gX4_thick_X4_within : GoodIn wsX4_thick (va_wsS RX4 53 yX4_within wsX4_within) := goodIn_app (goodIn_of _ (by decide +kernel)) ggX4_thick_X4_within
set_option maxRecDepth 20000 in
theorem ggX4_thick_X4_isHeat : GoodIn wsX4_thick wsX4_isHeat := goodIn_r _ [9, 3, 4, 5, 6] (by decide +kernel) (by decide +kernel)
set_option maxRecDepth 20000 in
theorem gX4_thick_X4_isHeat : GoodIn wsX4_thick (va_wsS RX4 160 yX4_isHeat wsX4_isHeat) := goodIn_app (goodIn_of _ (by decide +kernel)) ggX4_thick_X4_isHeat
set_option maxRecDepth 20000 in
theorem ggX4_thick_X0_become : GoodIn wsX4_thick wsX0_become := goodIn_r _ [13, 14, 15, 16, 17, 18, 19, 20, 21, 22, 23, 24, 25, 26, 87, 88, 89, 90, 91, 92, 93, 94, 95, 96] (by decide +kernel) (by decide +kernel)
set_option maxRecDepth 20000 in
theorem gX4_thick_X0_become_n130 : GoodIn wsX4_thick (wsX0_become) := ggX4_thick_X0_become
set_option maxRecDepth 20000 in
theorem ggX4_thick_X0_renewAll : GoodIn wsX4_thick wsX0_renewAll := goodIn_r _ [29, 22, 21, 20, 23, 87, 88, 89, 90, 91, 92, 93, 94, 95, 96] (by decide +kernel) (by decide +kernel)
set_option maxRecDepth 20000 in
theorem gX4_thick_X0_renewAll_n182 : GoodIn wsX4_thick (wsX0_renewAll) := ggX4_thick_X0_renewAll
set_option maxRecDepth 20000 in
theorem ggX4_thick_X0_liveUntilLeaks : GoodIn wsX4_thick wsX0_liveUntilLeaks := goodIn_r _ [32, 33, 34, 35, 11, 36, 22, 21, 14, 25, 37, 24, 38, 5, 39, 40, 41, 42, 43, 44, 45, 46, 47, 48, 49, 50, 20, 51, 52, 53, 54, 55, 56, 57, 58, 19, 59, 60, 61, 62, 63, 64, 65, 66, 67, 68, 69, 70, 71, 72, 73, 74, 75, 76, 27, 28, 29, 23, 87, 88, 89, 90, 91, 92, 93, 94, 95, 96] (by decide +kernel) (by decide +kernel)
set_option maxRecDepth 20000 in
theorem gX4_thick_X0_liveUntilLeaks_n179 : GoodIn wsX4_thick (wsX0_liveUntilLeaks) := ggX4_thick_X0_liveUntilLeaks
theorem dX4_thick_0 : decode cX4_thick 0 = .ok (.iload_n 1, 1) := by decide +kernel
theorem dX4_thick_1 : decode cX4_thick 1 = .ok (.iconst 1, 1) := by decide +kernel
theorem dX4_thick_2 : decode cX4_thick 2 = .ok (.bipush 30, 2) := by decide +kernel
theorem dX4_thick_4 : decode cX4_thick 4 = .ok (.invokestatic 53, 3) := by decide +kernel
theorem dX4_thick_7 : decode cX4_thick 7 = .ok (.ifCond .eq 10, 3) := by decide +kernel
theorem dX4_thick_10 : decode cX4_thick 10 = .ok (.iload_n 2, 1) := by decide +kernel
theorem dX4_thick_11 : decode cX4_thick 11 = .ok (.invokestatic 160, 3) := by decide +kernel
theorem dX4_thick_14 : decode cX4_thick 14 = .ok (.ifCond .ne 5, 3) := by decide +kernel
theorem dX4_thick_17 : decode cX4_thick 17 = .ok (.iconst (-1), 1) := by decide +kernel
theorem dX4_thick_18 : decode cX4_thick 18 = .ok (.ireturn, 1) := by decide +kernel
theorem dX4_thick_19 : decode cX4_thick 19 = .ok (.iconst 1, 1) := by decide +kernel
theorem dX4_thick_20 : decode cX4_thick 20 = .ok (.istore_n 3, 1) := by decide +kernel
theorem dX4_thick_21 : decode cX4_thick 21 = .ok (.iload_n 3, 1) := by decide +kernel
theorem dX4_thick_22 : decode cX4_thick 22 = .ok (.bipush 9, 2) := by decide +kernel
theorem dX4_thick_24 : decode cX4_thick 24 = .ok (.if_icmp .gt 50, 3) := by decide +kernel
theorem dX4_thick_27 : decode cX4_thick 27 = .ok (.aload_n 0, 1) := by decide +kernel
theorem dX4_thick_28 : decode cX4_thick 28 = .ok (.getfield 29, 3) := by decide +kernel
theorem dX4_thick_31 : decode cX4_thick 31 = .ok (.aload_n 0, 1) := by decide +kernel
theorem dX4_thick_32 : decode cX4_thick 32 = .ok (.getfield 10, 3) := by decide +kernel
theorem dX4_thick_35 : decode cX4_thick 35 = .ok (.invokevirtual 130, 3) := by decide +kernel
theorem dX4_thick_38 : decode cX4_thick 38 = .ok (.aload_n 0, 1) := by decide +kernel
theorem dX4_thick_39 : decode cX4_thick 39 = .ok (.getfield 29, 3) := by decide +kernel
theorem dX4_thick_42 : decode cX4_thick 42 = .ok (.iload_n 3, 1) := by decide +kernel
theorem dX4_thick_43 : decode cX4_thick 43 = .ok (.putfield 111, 3) := by decide +kernel
theorem dX4_thick_46 : decode cX4_thick 46 = .ok (.aload_n 0, 1) := by decide +kernel
theorem dX4_thick_47 : decode cX4_thick 47 = .ok (.getfield 29, 3) := by decide +kernel
theorem dX4_thick_50 : decode cX4_thick 50 = .ok (.invokevirtual 182, 3) := by decide +kernel
theorem dX4_thick_53 : decode cX4_thick 53 = .ok (.aload_n 0, 1) := by decide +kernel
theorem dX4_thick_54 : decode cX4_thick 54 = .ok (.getfield 29, 3) := by decide +kernel
theorem dX4_thick_57 : decode cX4_thick 57 = .ok (.iload_n 1, 1) := by decide +kernel
theorem dX4_thick_58 : decode cX4_thick 58 = .ok (.iload_n 2, 1) := by decide +kernel
theorem dX4_thick_59 : decode cX4_thick 59 = .ok (.iconst 1, 1) := by decide +kernel
theorem dX4_thick_60 : decode cX4_thick 60 = .ok (.invokevirtual 179, 3) := by decide +kernel
theorem dX4_thick_63 : decode cX4_thick 63 = .ok (.ifCond .ne 5, 3) := by decide +kernel
theorem dX4_thick_66 : decode cX4_thick 66 = .ok (.iload_n 3, 1) := by decide +kernel
theorem dX4_thick_67 : decode cX4_thick 67 = .ok (.ireturn, 1) := by decide +kernel
theorem dX4_thick_68 : decode cX4_thick 68 = .ok (.iinc 3 1, 3) := by decide +kernel
theorem dX4_thick_71 : decode cX4_thick 71 = .ok (.goto (-50), 3) := by decide +kernel
theorem dX4_thick_74 : decode cX4_thick 74 = .ok (.bipush (-4), 2) := by decide +kernel
theorem dX4_thick_76 : decode cX4_thick 76 = .ok (.ireturn, 1) := by decide +kernel
set_option maxRecDepth 20000 in
theorem ggX4_renew_X4_isThing : GoodIn wsX4_renew wsX4_isThing := goodIn_r _ [4, 5, 6, 3, 7] (by decide +kernel) (by decide +kernel)
set_option maxRecDepth 20000 in
theorem gX4_renew_X4_isThing : GoodIn wsX4_renew (va_wsS RX4 94 yX4_isThing wsX4_isThing) := goodIn_app (goodIn_of _ (by decide +kernel)) ggX4_renew_X4_isThing
set_option maxRecDepth 20000 in
theorem ggX4_renew_X4_within : GoodIn wsX4_renew wsX4_within := goodIn_r _ [7] (by decide +kernel) (by decide +kernel)
set_option maxRecDepth 20000 in
theorem gX4_renew_X4_within : GoodIn wsX4_renew (va_wsS RX4 53 yX4_within wsX4_within) := goodIn_app (goodIn_of _ (by decide +kernel)) ggX4_renew_X4_within
set_option maxRecDepth 20000 in
theorem ggX4_renew_X4_isHeat : GoodIn wsX4_renew wsX4_isHeat := goodIn_r _ [10, 5, 6, 3, 7] (by decide +kernel) (by decide +kernel)
set_option maxRecDepth 20000 in
theorem gX4_renew_X4_isHeat : GoodIn wsX4_renew (va_wsS RX4 160 yX4_isHeat wsX4_isHeat) := goodIn_app (goodIn_of _ (by decide +kernel)) ggX4_renew_X4_isHeat
set_option maxRecDepth 20000 in
theorem ggX4_renew_X4_leastRenewed : GoodIn wsX4_renew wsX4_leastRenewed := goodIn_r _ [14, 15, 16, 17, 18, 19, 20, 21, 22, 23, 24, 25, 26, 27, 28, 29, 30, 31, 3, 32, 33, 34, 35, 36, 37, 38, 39, 40, 41, 42, 43, 44, 45, 46, 47, 48, 49, 50, 51, 52, 53, 54, 55, 56, 57, 58, 59, 60, 61, 62, 63, 64, 65, 66, 67, 68, 69, 70, 71, 72, 73, 74, 75, 76, 77, 78, 79, 80, 81, 82, 83, 84, 85, 86, 87, 88, 89, 90, 91, 92, 93, 94, 95, 96, 97, 98, 99, 100, 101, 102, 103, 104, 105, 106, 107, 108, 109, 110, 111, 112, 113, 114, 115, 116, 117, 118, 119, 120, 121, 122, 123] (by decide +kernel) (by decide +kernel)
set_option maxRecDepth 20000 in
theorem gX4_renew_X4_leastRenewed : GoodIn wsX4_renew (wsV RX4 185 RX4 yX4_leastRenewed wsX4_leastRenewed) := goodIn_app (goodIn_of _ (by decide +kernel)) ggX4_renew_X4_leastRenewed
set_option maxRecDepth 20000 in
theorem ggX4_renew_J6_bitCount_0f7a4 : GoodIn wsX4_renew wsJ6_bitCount_0f7a4 := goodIn_r _ [25, 26, 27, 28] (by decide +kernel) (by decide +kernel)
set_option maxRecDepth 20000 in
theorem gX4_renew_J6_bitCount_0f7a4 : GoodIn wsX4_renew (va_wsS RX4 189 yJ6_bitCount_0f7a4 wsJ6_bitCount_0f7a4) := goodIn_app (goodIn_of _ (by decide +kernel)) ggX4_renew_J6_bitCount_0f7a4
