theorem dX0_seatNew_16 : decode cX0_seatNew 16 = .ok (.iload_n 2, 1) := by decide +kernel
theorem dX0_seatNew_17 : decode cX0_seatNew 17 = .ok (.iload_n 2, 1) := by decide +kernel
theorem dX0_seatNew_18 : decode cX0_seatNew 18 = .ok (.iastore, 1) := by decide +kernel
theorem dX0_seatNew_19 : decode cX0_seatNew 19 = .ok (.aload_n 0, 1) := by decide +kernel
theorem dX0_seatNew_20 : decode cX0_seatNew 20 = .ok (.getfield 18, 3) := by decide +kernel
theorem dX0_seatNew_23 : decode cX0_seatNew 23 = .ok (.iload_n 2, 1) := by decide +kernel
theorem dX0_seatNew_24 : decode cX0_seatNew 24 = .ok (.lconst 0, 1) := by decide +kernel
theorem dX0_seatNew_25 : decode cX0_seatNew 25 = .ok (.lastore, 1) := by decide +kernel
theorem dX0_seatNew_26 : decode cX0_seatNew 26 = .ok (.aload_n 0, 1) := by decide +kernel
theorem dX0_seatNew_27 : decode cX0_seatNew 27 = .ok (.getfield 22, 3) := by decide +kernel
theorem dX0_seatNew_30 : decode cX0_seatNew 30 = .ok (.iload_n 2, 1) := by decide +kernel
theorem dX0_seatNew_31 : decode cX0_seatNew 31 = .ok (.lconst 0, 1) := by decide +kernel
theorem dX0_seatNew_32 : decode cX0_seatNew 32 = .ok (.lastore, 1) := by decide +kernel
theorem dX0_seatNew_33 : decode cX0_seatNew 33 = .ok (.aload_n 0, 1) := by decide +kernel
theorem dX0_seatNew_34 : decode cX0_seatNew 34 = .ok (.dup, 1) := by decide +kernel
theorem dX0_seatNew_35 : decode cX0_seatNew 35 = .ok (.getfield 44, 3) := by decide +kernel
theorem dX0_seatNew_38 : decode cX0_seatNew 38 = .ok (.iconst 1, 1) := by decide +kernel
theorem dX0_seatNew_39 : decode cX0_seatNew 39 = .ok (.iadd, 1) := by decide +kernel
theorem dX0_seatNew_40 : decode cX0_seatNew 40 = .ok (.putfield 44, 3) := by decide +kernel
theorem dX0_seatNew_43 : decode cX0_seatNew 43 = .ok (.iload_n 2, 1) := by decide +kernel
theorem dX0_seatNew_44 : decode cX0_seatNew 44 = .ok (.ireturn, 1) := by decide +kernel
theorem dX0_placeOf_0 : decode cX0_placeOf 0 = .ok (.iconst 0, 1) := by decide +kernel
theorem dX0_placeOf_1 : decode cX0_placeOf 1 = .ok (.istore_n 2, 1) := by decide +kernel
theorem dX0_placeOf_2 : decode cX0_placeOf 2 = .ok (.iconst 0, 1) := by decide +kernel
theorem dX0_placeOf_3 : decode cX0_placeOf 3 = .ok (.istore_n 3, 1) := by decide +kernel
theorem dX0_placeOf_4 : decode cX0_placeOf 4 = .ok (.iload_n 3, 1) := by decide +kernel
theorem dX0_placeOf_5 : decode cX0_placeOf 5 = .ok (.aload_n 0, 1) := by decide +kernel
theorem dX0_placeOf_6 : decode cX0_placeOf 6 = .ok (.getfield 44, 3) := by decide +kernel
theorem dX0_placeOf_9 : decode cX0_placeOf 9 = .ok (.if_icmp .ge 25, 3) := by decide +kernel
theorem dX0_placeOf_12 : decode cX0_placeOf 12 = .ok (.aload_n 0, 1) := by decide +kernel
theorem dX0_placeOf_13 : decode cX0_placeOf 13 = .ok (.getfield 15, 3) := by decide +kernel
theorem dX0_placeOf_16 : decode cX0_placeOf 16 = .ok (.iload_n 3, 1) := by decide +kernel
theorem dX0_placeOf_17 : decode cX0_placeOf 17 = .ok (.iaload, 1) := by decide +kernel
theorem dX0_placeOf_18 : decode cX0_placeOf 18 = .ok (.iload_n 1, 1) := by decide +kernel
theorem dX0_placeOf_19 : decode cX0_placeOf 19 = .ok (.if_icmp .ne 7, 3) := by decide +kernel
theorem dX0_placeOf_22 : decode cX0_placeOf 22 = .ok (.iload_n 3, 1) := by decide +kernel
theorem dX0_placeOf_23 : decode cX0_placeOf 23 = .ok (.goto 4, 3) := by decide +kernel
theorem dX0_placeOf_26 : decode cX0_placeOf 26 = .ok (.iload_n 2, 1) := by decide +kernel
theorem dX0_placeOf_27 : decode cX0_placeOf 27 = .ok (.istore_n 2, 1) := by decide +kernel
theorem dX0_placeOf_28 : decode cX0_placeOf 28 = .ok (.iinc 3 1, 3) := by decide +kernel
theorem dX0_placeOf_31 : decode cX0_placeOf 31 = .ok (.goto (-27), 3) := by decide +kernel
theorem dX0_placeOf_34 : decode cX0_placeOf 34 = .ok (.iload_n 2, 1) := by decide +kernel
theorem dX0_placeOf_35 : decode cX0_placeOf 35 = .ok (.ireturn, 1) := by decide +kernel
set_option maxRecDepth 20000 in
theorem ggX0_beside_X0_placeOf : GoodIn wsX0_beside wsX0_placeOf := goodIn_r _ [6, 7, 1, 12, 13, 14, 15, 16, 17, 18, 19, 20, 21] (by decide +kernel) (by decide +kernel)
set_option maxRecDepth 20000 in
theorem gX0_beside_X0_placeOf : GoodIn wsX0_beside (wsV RX0 50 RX0 yX0_placeOf wsX0_placeOf) := goodIn_app (goodIn_of _ (by decide +kernel)) ggX0_beside_X0_placeOf
set_option maxRecDepth 20000 in
theorem ggX0_beside_X0_around : GoodIn wsX0_beside wsX0_around := goodIn_r _ [11, 7, 12, 13, 14, 15, 16, 17, 18, 19, 20, 21] (by decide +kernel) (by decide +kernel)
set_option maxRecDepth 20000 in
theorem gX0_beside_X0_around : GoodIn wsX0_beside (wsV RX0 54 RX0 yX0_around wsX0_around) := goodIn_app (goodIn_of _ (by decide +kernel)) ggX0_beside_X0_around
theorem dX0_beside_0 : decode cX0_beside 0 = .ok (.aload_n 0, 1) := by decide +kernel
theorem dX0_beside_1 : decode cX0_beside 1 = .ok (.getfield 15, 3) := by decide +kernel
theorem dX0_beside_4 : decode cX0_beside 4 = .ok (.aload_n 0, 1) := by decide +kernel
theorem dX0_beside_5 : decode cX0_beside 5 = .ok (.aload_n 0, 1) := by decide +kernel
theorem dX0_beside_6 : decode cX0_beside 6 = .ok (.iload_n 1, 1) := by decide +kernel
theorem dX0_beside_7 : decode cX0_beside 7 = .ok (.invokevirtual 50, 3) := by decide +kernel
theorem dX0_beside_10 : decode cX0_beside 10 = .ok (.iload_n 2, 1) := by decide +kernel
theorem dX0_beside_11 : decode cX0_beside 11 = .ok (.iadd, 1) := by decide +kernel
theorem dX0_beside_12 : decode cX0_beside 12 = .ok (.invokevirtual 54, 3) := by decide +kernel
theorem dX0_beside_15 : decode cX0_beside 15 = .ok (.iaload, 1) := by decide +kernel
theorem dX0_beside_16 : decode cX0_beside 16 = .ok (.ireturn, 1) := by decide +kernel
theorem dX0_around_0 : decode cX0_around 0 = .ok (.iload_n 1, 1) := by decide +kernel
theorem dX0_around_1 : decode cX0_around 1 = .ok (.aload_n 0, 1) := by decide +kernel
theorem dX0_around_2 : decode cX0_around 2 = .ok (.getfield 44, 3) := by decide +kernel
theorem dX0_around_5 : decode cX0_around 5 = .ok (.if_icmp .lt 12, 3) := by decide +kernel
theorem dX0_around_8 : decode cX0_around 8 = .ok (.iload_n 1, 1) := by decide +kernel
theorem dX0_around_9 : decode cX0_around 9 = .ok (.aload_n 0, 1) := by decide +kernel
theorem dX0_around_10 : decode cX0_around 10 = .ok (.getfield 44, 3) := by decide +kernel
theorem dX0_around_13 : decode cX0_around 13 = .ok (.isub, 1) := by decide +kernel
theorem dX0_around_14 : decode cX0_around 14 = .ok (.goto 4, 3) := by decide +kernel
theorem dX0_around_17 : decode cX0_around 17 = .ok (.iload_n 1, 1) := by decide +kernel
theorem dX0_around_18 : decode cX0_around 18 = .ok (.ireturn, 1) := by decide +kernel
set_option maxRecDepth 20000 in
theorem ggX0_swapSeats_X0_placeOf : GoodIn wsX0_swapSeats wsX0_placeOf := goodIn_r _ [6, 7, 1, 8, 9, 10, 11, 12, 13, 14, 15, 16, 17] (by decide +kernel) (by decide +kernel)
set_option maxRecDepth 20000 in
theorem gX0_swapSeats_X0_placeOf : GoodIn wsX0_swapSeats (wsV RX0 50 RX0 yX0_placeOf wsX0_placeOf) := goodIn_app (goodIn_of _ (by decide +kernel)) ggX0_swapSeats_X0_placeOf
theorem dX0_swapSeats_0 : decode cX0_swapSeats 0 = .ok (.aload_n 0, 1) := by decide +kernel
theorem dX0_swapSeats_1 : decode cX0_swapSeats 1 = .ok (.iload_n 1, 1) := by decide +kernel
theorem dX0_swapSeats_2 : decode cX0_swapSeats 2 = .ok (.invokevirtual 50, 3) := by decide +kernel
theorem dX0_swapSeats_5 : decode cX0_swapSeats 5 = .ok (.istore_n 3, 1) := by decide +kernel
theorem dX0_swapSeats_6 : decode cX0_swapSeats 6 = .ok (.aload_n 0, 1) := by decide +kernel
theorem dX0_swapSeats_7 : decode cX0_swapSeats 7 = .ok (.iload_n 2, 1) := by decide +kernel
theorem dX0_swapSeats_8 : decode cX0_swapSeats 8 = .ok (.invokevirtual 50, 3) := by decide +kernel
theorem dX0_swapSeats_11 : decode cX0_swapSeats 11 = .ok (.istore 4, 2) := by decide +kernel
theorem dX0_swapSeats_13 : decode cX0_swapSeats 13 = .ok (.aload_n 0, 1) := by decide +kernel
theorem dX0_swapSeats_14 : decode cX0_swapSeats 14 = .ok (.getfield 15, 3) := by decide +kernel
theorem dX0_swapSeats_17 : decode cX0_swapSeats 17 = .ok (.iload_n 3, 1) := by decide +kernel
theorem dX0_swapSeats_18 : decode cX0_swapSeats 18 = .ok (.iload_n 2, 1) := by decide +kernel
theorem dX0_swapSeats_19 : decode cX0_swapSeats 19 = .ok (.iastore, 1) := by decide +kernel
theorem dX0_swapSeats_20 : decode cX0_swapSeats 20 = .ok (.aload_n 0, 1) := by decide +kernel
theorem dX0_swapSeats_21 : decode cX0_swapSeats 21 = .ok (.getfield 15, 3) := by decide +kernel
theorem dX0_swapSeats_24 : decode cX0_swapSeats 24 = .ok (.iload 4, 2) := by decide +kernel
theorem dX0_swapSeats_26 : decode cX0_swapSeats 26 = .ok (.iload_n 1, 1) := by decide +kernel
theorem dX0_swapSeats_27 : decode cX0_swapSeats 27 = .ok (.iastore, 1) := by decide +kernel
theorem dX0_swapSeats_28 : decode cX0_swapSeats 28 = .ok (.return_, 1) := by decide +kernel
set_option maxRecDepth 20000 in
theorem ggX0_isKnownBy_X4_byteOf : GoodIn wsX0_isKnownBy wsX4_byteOf := goodIn_r _ [4] (by decide +kernel) (by decide +kernel)
set_option maxRecDepth 20000 in
theorem gX0_isKnownBy_X4_byteOf_n57 : GoodIn wsX0_isKnownBy (wsX4_byteOf) := ggX0_isKnownBy_X4_byteOf
theorem dX0_isKnownBy_0 : decode cX0_isKnownBy 0 = .ok (.aload_n 0, 1) := by decide +kernel
theorem dX0_isKnownBy_1 : decode cX0_isKnownBy 1 = .ok (.getfield 18, 3) := by decide +kernel
theorem dX0_isKnownBy_4 : decode cX0_isKnownBy 4 = .ok (.iload_n 1, 1) := by decide +kernel
theorem dX0_isKnownBy_5 : decode cX0_isKnownBy 5 = .ok (.laload, 1) := by decide +kernel
theorem dX0_isKnownBy_6 : decode cX0_isKnownBy 6 = .ok (.iload_n 2, 1) := by decide +kernel
theorem dX0_isKnownBy_7 : decode cX0_isKnownBy 7 = .ok (.invokestatic 57, 3) := by decide +kernel
theorem dX0_isKnownBy_10 : decode cX0_isKnownBy 10 = .ok (.land, 1) := by decide +kernel
theorem dX0_isKnownBy_11 : decode cX0_isKnownBy 11 = .ok (.lconst 0, 1) := by decide +kernel
theorem dX0_isKnownBy_12 : decode cX0_isKnownBy 12 = .ok (.lcmp, 1) := by decide +kernel
theorem dX0_isKnownBy_13 : decode cX0_isKnownBy 13 = .ok (.ifCond .eq 7, 3) := by decide +kernel
theorem dX0_isKnownBy_16 : decode cX0_isKnownBy 16 = .ok (.iconst 1, 1) := by decide +kernel
theorem dX0_isKnownBy_17 : decode cX0_isKnownBy 17 = .ok (.goto 4, 3) := by decide +kernel
theorem dX0_isKnownBy_20 : decode cX0_isKnownBy 20 = .ok (.iconst 0, 1) := by decide +kernel
theorem dX0_isKnownBy_21 : decode cX0_isKnownBy 21 = .ok (.ireturn, 1) := by decide +kernel
theorem dX0_strengthOf_0 : decode cX0_strengthOf 0 = .ok (.aload_n 0, 1) := by decide +kernel
theorem dX0_strengthOf_1 : decode cX0_strengthOf 1 = .ok (.getfield 22, 3) := by decide +kernel
theorem dX0_strengthOf_4 : decode cX0_strengthOf 4 = .ok (.iload_n 1, 1) := by decide +kernel
theorem dX0_strengthOf_5 : decode cX0_strengthOf 5 = .ok (.laload, 1) := by decide +kernel
theorem dX0_strengthOf_6 : decode cX0_strengthOf 6 = .ok (.bipush 8, 2) := by decide +kernel
theorem dX0_strengthOf_8 : decode cX0_strengthOf 8 = .ok (.iload_n 2, 1) := by decide +kernel
theorem dX0_strengthOf_9 : decode cX0_strengthOf 9 = .ok (.imul, 1) := by decide +kernel
theorem dX0_strengthOf_10 : decode cX0_strengthOf 10 = .ok (.lushr, 1) := by decide +kernel
theorem dX0_strengthOf_11 : decode cX0_strengthOf 11 = .ok (.l2i, 1) := by decide +kernel
theorem dX0_strengthOf_12 : decode cX0_strengthOf 12 = .ok (.bipush 127, 2) := by decide +kernel
theorem dX0_strengthOf_14 : decode cX0_strengthOf 14 = .ok (.iand, 1) := by decide +kernel
theorem dX0_strengthOf_15 : decode cX0_strengthOf 15 = .ok (.ireturn, 1) := by decide +kernel
set_option maxRecDepth 20000 in
theorem ggX0_learn_X4_byteOf : GoodIn wsX0_learn wsX4_byteOf := goodIn_r _ [7] (by decide +kernel) (by decide +kernel)
set_option maxRecDepth 20000 in
theorem gX0_learn_X4_byteOf_n57 : GoodIn wsX0_learn (wsX4_byteOf) := ggX0_learn_X4_byteOf
theorem dX0_learn_0 : decode cX0_learn 0 = .ok (.iload_n 2, 1) := by decide +kernel
theorem dX0_learn_1 : decode cX0_learn 1 = .ok (.invokestatic 57, 3) := by decide +kernel
theorem dX0_learn_4 : decode cX0_learn 4 = .ok (.lstore 4, 2) := by decide +kernel
theorem dX0_learn_6 : decode cX0_learn 6 = .ok (.aload_n 0, 1) := by decide +kernel
theorem dX0_learn_7 : decode cX0_learn 7 = .ok (.getfield 18, 3) := by decide +kernel
theorem dX0_learn_10 : decode cX0_learn 10 = .ok (.iload_n 1, 1) := by decide +kernel
theorem dX0_learn_11 : decode cX0_learn 11 = .ok (.dup2, 1) := by decide +kernel
theorem dX0_learn_12 : decode cX0_learn 12 = .ok (.laload, 1) := by decide +kernel
theorem dX0_learn_13 : decode cX0_learn 13 = .ok (.lload 4, 2) := by decide +kernel
theorem dX0_learn_15 : decode cX0_learn 15 = .ok (.lor, 1) := by decide +kernel
theorem dX0_learn_16 : decode cX0_learn 16 = .ok (.lastore, 1) := by decide +kernel
theorem dX0_learn_17 : decode cX0_learn 17 = .ok (.aload_n 0, 1) := by decide +kernel
theorem dX0_learn_18 : decode cX0_learn 18 = .ok (.getfield 22, 3) := by decide +kernel
theorem dX0_learn_21 : decode cX0_learn 21 = .ok (.iload_n 1, 1) := by decide +kernel
theorem dX0_learn_22 : decode cX0_learn 22 = .ok (.aload_n 0, 1) := by decide +kernel
theorem dX0_learn_23 : decode cX0_learn 23 = .ok (.getfield 22, 3) := by decide +kernel
theorem dX0_learn_26 : decode cX0_learn 26 = .ok (.iload_n 1, 1) := by decide +kernel
theorem dX0_learn_27 : decode cX0_learn 27 = .ok (.laload, 1) := by decide +kernel
theorem dX0_learn_28 : decode cX0_learn 28 = .ok (.lload 4, 2) := by decide +kernel
theorem dX0_learn_30 : decode cX0_learn 30 = .ok (.ldc2_w 61, 3) := by decide +kernel
theorem dX0_learn_33 : decode cX0_learn 33 = .ok (.lmul, 1) := by decide +kernel
theorem dX0_learn_34 : decode cX0_learn 34 = .ok (.ldc2_w 63, 3) := by decide +kernel
theorem dX0_learn_37 : decode cX0_learn 37 = .ok (.lxor, 1) := by decide +kernel
theorem dX0_learn_38 : decode cX0_learn 38 = .ok (.land, 1) := by decide +kernel
theorem dX0_learn_39 : decode cX0_learn 39 = .ok (.lload 4, 2) := by decide +kernel
theorem dX0_learn_41 : decode cX0_learn 41 = .ok (.iload_n 3, 1) := by decide +kernel
theorem dX0_learn_42 : decode cX0_learn 42 = .ok (.i2l, 1) := by decide +kernel
theorem dX0_learn_43 : decode cX0_learn 43 = .ok (.lmul, 1) := by decide +kernel
theorem dX0_learn_44 : decode cX0_learn 44 = .ok (.lor, 1) := by decide +kernel
theorem dX0_learn_45 : decode cX0_learn 45 = .ok (.lastore, 1) := by decide +kernel
theorem dX0_learn_46 : decode cX0_learn 46 = .ok (.return_, 1) := by decide +kernel
set_option maxRecDepth 20000 in
theorem ggX0_forgetThing_X4_byteOf : GoodIn wsX0_forgetThing wsX4_byteOf := goodIn_r _ [8] (by decide +kernel) (by decide +kernel)
set_option maxRecDepth 20000 in
theorem gX0_forgetThing_X4_byteOf_n57 : GoodIn wsX0_forgetThing (wsX4_byteOf) := ggX0_forgetThing_X4_byteOf
theorem dX0_forgetThing_0 : decode cX0_forgetThing 0 = .ok (.iload_n 1, 1) := by decide +kernel
theorem dX0_forgetThing_1 : decode cX0_forgetThing 1 = .ok (.invokestatic 57, 3) := by decide +kernel
theorem dX0_forgetThing_4 : decode cX0_forgetThing 4 = .ok (.lstore_n 2, 1) := by decide +kernel
theorem dX0_forgetThing_5 : decode cX0_forgetThing 5 = .ok (.iconst 0, 1) := by decide +kernel
theorem dX0_forgetThing_6 : decode cX0_forgetThing 6 = .ok (.istore 4, 2) := by decide +kernel
theorem dX0_forgetThing_8 : decode cX0_forgetThing 8 = .ok (.iload 4, 2) := by decide +kernel
theorem dX0_forgetThing_10 : decode cX0_forgetThing 10 = .ok (.aload_n 0, 1) := by decide +kernel
theorem dX0_forgetThing_11 : decode cX0_forgetThing 11 = .ok (.getfield 44, 3) := by decide +kernel
theorem dX0_forgetThing_14 : decode cX0_forgetThing 14 = .ok (.if_icmp .ge 43, 3) := by decide +kernel
theorem dX0_forgetThing_17 : decode cX0_forgetThing 17 = .ok (.aload_n 0, 1) := by decide +kernel
theorem dX0_forgetThing_18 : decode cX0_forgetThing 18 = .ok (.getfield 18, 3) := by decide +kernel
theorem dX0_forgetThing_21 : decode cX0_forgetThing 21 = .ok (.iload 4, 2) := by decide +kernel
theorem dX0_forgetThing_23 : decode cX0_forgetThing 23 = .ok (.dup2, 1) := by decide +kernel
theorem dX0_forgetThing_24 : decode cX0_forgetThing 24 = .ok (.laload, 1) := by decide +kernel
theorem dX0_forgetThing_25 : decode cX0_forgetThing 25 = .ok (.lload_n 2, 1) := by decide +kernel
theorem dX0_forgetThing_26 : decode cX0_forgetThing 26 = .ok (.ldc2_w 63, 3) := by decide +kernel
theorem dX0_forgetThing_29 : decode cX0_forgetThing 29 = .ok (.lxor, 1) := by decide +kernel
theorem dX0_forgetThing_30 : decode cX0_forgetThing 30 = .ok (.land, 1) := by decide +kernel
theorem dX0_forgetThing_31 : decode cX0_forgetThing 31 = .ok (.lastore, 1) := by decide +kernel
theorem dX0_forgetThing_32 : decode cX0_forgetThing 32 = .ok (.aload_n 0, 1) := by decide +kernel
theorem dX0_forgetThing_33 : decode cX0_forgetThing 33 = .ok (.getfield 22, 3) := by decide +kernel
theorem dX0_forgetThing_36 : decode cX0_forgetThing 36 = .ok (.iload 4, 2) := by decide +kernel
theorem dX0_forgetThing_38 : decode cX0_forgetThing 38 = .ok (.dup2, 1) := by decide +kernel
theorem dX0_forgetThing_39 : decode cX0_forgetThing 39 = .ok (.laload, 1) := by decide +kernel
theorem dX0_forgetThing_40 : decode cX0_forgetThing 40 = .ok (.lload_n 2, 1) := by decide +kernel
theorem dX0_forgetThing_41 : decode cX0_forgetThing 41 = .ok (.ldc2_w 61, 3) := by decide +kernel
theorem dX0_forgetThing_44 : decode cX0_forgetThing 44 = .ok (.lmul, 1) := by decide +kernel
theorem dX0_forgetThing_45 : decode cX0_forgetThing 45 = .ok (.ldc2_w 63, 3) := by decide +kernel
theorem dX0_forgetThing_48 : decode cX0_forgetThing 48 = .ok (.lxor, 1) := by decide +kernel
theorem dX0_forgetThing_49 : decode cX0_forgetThing 49 = .ok (.land, 1) := by decide +kernel
theorem dX0_forgetThing_50 : decode cX0_forgetThing 50 = .ok (.lastore, 1) := by decide +kernel
theorem dX0_forgetThing_51 : decode cX0_forgetThing 51 = .ok (.iinc 4 1, 3) := by decide +kernel
theorem dX0_forgetThing_54 : decode cX0_forgetThing 54 = .ok (.goto (-46), 3) := by decide +kernel
theorem dX0_forgetThing_57 : decode cX0_forgetThing 57 = .ok (.return_, 1) := by decide +kernel
set_option maxRecDepth 20000 in
theorem ggX0_openOf_X4_sealedIn : GoodIn wsX0_openOf wsX4_sealedIn := goodIn_r _ [6, 7, 8] (by decide +kernel) (by decide +kernel)
set_option maxRecDepth 20000 in
theorem gX0_openOf_X4_sealedIn_n65 : GoodIn wsX0_openOf (wsX4_sealedIn) := ggX0_openOf_X4_sealedIn
theorem dX0_openOf_0 : decode cX0_openOf 0 = .ok (.aload_n 0, 1) := by decide +kernel
theorem dX0_openOf_1 : decode cX0_openOf 1 = .ok (.getfield 18, 3) := by decide +kernel
theorem dX0_openOf_4 : decode cX0_openOf 4 = .ok (.iload_n 1, 1) := by decide +kernel
theorem dX0_openOf_5 : decode cX0_openOf 5 = .ok (.laload, 1) := by decide +kernel
theorem dX0_openOf_6 : decode cX0_openOf 6 = .ok (.aload_n 0, 1) := by decide +kernel
theorem dX0_openOf_7 : decode cX0_openOf 7 = .ok (.getfield 22, 3) := by decide +kernel
theorem dX0_openOf_10 : decode cX0_openOf 10 = .ok (.iload_n 1, 1) := by decide +kernel
theorem dX0_openOf_11 : decode cX0_openOf 11 = .ok (.laload, 1) := by decide +kernel
theorem dX0_openOf_12 : decode cX0_openOf 12 = .ok (.invokestatic 65, 3) := by decide +kernel
theorem dX0_openOf_15 : decode cX0_openOf 15 = .ok (.ldc2_w 63, 3) := by decide +kernel
theorem dX0_openOf_18 : decode cX0_openOf 18 = .ok (.lxor, 1) := by decide +kernel
theorem dX0_openOf_19 : decode cX0_openOf 19 = .ok (.land, 1) := by decide +kernel
theorem dX0_openOf_20 : decode cX0_openOf 20 = .ok (.lreturn, 1) := by decide +kernel
set_option maxRecDepth 20000 in
theorem ggX0_rankOf_X4_sealedIn : GoodIn wsX0_rankOf wsX4_sealedIn := goodIn_r _ [4, 5, 6] (by decide +kernel) (by decide +kernel)
set_option maxRecDepth 20000 in
theorem gX0_rankOf_X4_sealedIn_n65 : GoodIn wsX0_rankOf (wsX4_sealedIn) := ggX0_rankOf_X4_sealedIn
set_option maxRecDepth 20000 in
theorem ggX0_rankOf_J13_bitCount_95d88 : GoodIn wsX0_rankOf wsJ13_bitCount_95d88 := goodIn_r _ [10, 11, 12, 13] (by decide +kernel) (by decide +kernel)
set_option maxRecDepth 20000 in
theorem gX0_rankOf_J13_bitCount_95d88 : GoodIn wsX0_rankOf (va_wsS RX0 69 yJ13_bitCount_95d88 wsJ13_bitCount_95d88) := goodIn_app (goodIn_of _ (by decide +kernel)) ggX0_rankOf_J13_bitCount_95d88
theorem dX0_rankOf_0 : decode cX0_rankOf 0 = .ok (.aload_n 0, 1) := by decide +kernel
theorem dX0_rankOf_1 : decode cX0_rankOf 1 = .ok (.getfield 22, 3) := by decide +kernel
theorem dX0_rankOf_4 : decode cX0_rankOf 4 = .ok (.iload_n 1, 1) := by decide +kernel
theorem dX0_rankOf_5 : decode cX0_rankOf 5 = .ok (.laload, 1) := by decide +kernel
theorem dX0_rankOf_6 : decode cX0_rankOf 6 = .ok (.invokestatic 65, 3) := by decide +kernel
theorem dX0_rankOf_9 : decode cX0_rankOf 9 = .ok (.invokestatic 69, 3) := by decide +kernel
theorem dX0_rankOf_12 : decode cX0_rankOf 12 = .ok (.ireturn, 1) := by decide +kernel
theorem dX0_knowersOf_0 : decode cX0_knowersOf 0 = .ok (.iconst 0, 1) := by decide +kernel
theorem dX0_knowersOf_1 : decode cX0_knowersOf 1 = .ok (.istore_n 2, 1) := by decide +kernel
theorem dX0_knowersOf_2 : decode cX0_knowersOf 2 = .ok (.iconst 0, 1) := by decide +kernel
theorem dX0_knowersOf_3 : decode cX0_knowersOf 3 = .ok (.istore_n 3, 1) := by decide +kernel
theorem dX0_knowersOf_4 : decode cX0_knowersOf 4 = .ok (.iload_n 3, 1) := by decide +kernel
theorem dX0_knowersOf_5 : decode cX0_knowersOf 5 = .ok (.aload_n 0, 1) := by decide +kernel
theorem dX0_knowersOf_6 : decode cX0_knowersOf 6 = .ok (.getfield 44, 3) := by decide +kernel
theorem dX0_knowersOf_9 : decode cX0_knowersOf 9 = .ok (.if_icmp .ge 28, 3) := by decide +kernel
theorem dX0_knowersOf_12 : decode cX0_knowersOf 12 = .ok (.iload_n 2, 1) := by decide +kernel
theorem dX0_knowersOf_13 : decode cX0_knowersOf 13 = .ok (.aload_n 0, 1) := by decide +kernel
theorem dX0_knowersOf_14 : decode cX0_knowersOf 14 = .ok (.getfield 18, 3) := by decide +kernel
theorem dX0_knowersOf_17 : decode cX0_knowersOf 17 = .ok (.iload_n 3, 1) := by decide +kernel
theorem dX0_knowersOf_18 : decode cX0_knowersOf 18 = .ok (.laload, 1) := by decide +kernel
theorem dX0_knowersOf_19 : decode cX0_knowersOf 19 = .ok (.bipush 8, 2) := by decide +kernel
theorem dX0_knowersOf_21 : decode cX0_knowersOf 21 = .ok (.iload_n 1, 1) := by decide +kernel
theorem dX0_knowersOf_22 : decode cX0_knowersOf 22 = .ok (.imul, 1) := by decide +kernel
theorem dX0_knowersOf_23 : decode cX0_knowersOf 23 = .ok (.lushr, 1) := by decide +kernel
theorem dX0_knowersOf_24 : decode cX0_knowersOf 24 = .ok (.lconst 1, 1) := by decide +kernel
theorem dX0_knowersOf_25 : decode cX0_knowersOf 25 = .ok (.land, 1) := by decide +kernel
theorem dX0_knowersOf_26 : decode cX0_knowersOf 26 = .ok (.l2i, 1) := by decide +kernel
theorem dX0_knowersOf_27 : decode cX0_knowersOf 27 = .ok (.iload_n 3, 1) := by decide +kernel
theorem dX0_knowersOf_28 : decode cX0_knowersOf 28 = .ok (.ishl, 1) := by decide +kernel
theorem dX0_knowersOf_29 : decode cX0_knowersOf 29 = .ok (.ior, 1) := by decide +kernel
theorem dX0_knowersOf_30 : decode cX0_knowersOf 30 = .ok (.istore_n 2, 1) := by decide +kernel
theorem dX0_knowersOf_31 : decode cX0_knowersOf 31 = .ok (.iinc 3 1, 3) := by decide +kernel
theorem dX0_knowersOf_34 : decode cX0_knowersOf 34 = .ok (.goto (-30), 3) := by decide +kernel
theorem dX0_knowersOf_37 : decode cX0_knowersOf 37 = .ok (.iload_n 2, 1) := by decide +kernel
theorem dX0_knowersOf_38 : decode cX0_knowersOf 38 = .ok (.ireturn, 1) := by decide +kernel
set_option maxRecDepth 20000 in
theorem ggX0_isOut_X0_knowersOf : GoodIn wsX0_isOut wsX0_knowersOf := goodIn_r _ [6, 1, 7, 8, 9, 10, 11, 12, 13, 14, 15, 16, 17] (by decide +kernel) (by decide +kernel)
set_option maxRecDepth 20000 in
theorem gX0_isOut_X0_knowersOf : GoodIn wsX0_isOut (wsV RX0 75 RX0 yX0_knowersOf wsX0_knowersOf) := goodIn_app (goodIn_of _ (by decide +kernel)) ggX0_isOut_X0_knowersOf
theorem dX0_isOut_0 : decode cX0_isOut 0 = .ok (.aload_n 0, 1) := by decide +kernel
theorem dX0_isOut_1 : decode cX0_isOut 1 = .ok (.getfield 44, 3) := by decide +kernel
theorem dX0_isOut_4 : decode cX0_isOut 4 = .ok (.ifCond .le 23, 3) := by decide +kernel
theorem dX0_isOut_7 : decode cX0_isOut 7 = .ok (.aload_n 0, 1) := by decide +kernel
theorem dX0_isOut_8 : decode cX0_isOut 8 = .ok (.iload_n 1, 1) := by decide +kernel
theorem dX0_isOut_9 : decode cX0_isOut 9 = .ok (.invokevirtual 75, 3) := by decide +kernel
theorem dX0_isOut_12 : decode cX0_isOut 12 = .ok (.iconst 1, 1) := by decide +kernel
theorem dX0_isOut_13 : decode cX0_isOut 13 = .ok (.aload_n 0, 1) := by decide +kernel
theorem dX0_isOut_14 : decode cX0_isOut 14 = .ok (.getfield 44, 3) := by decide +kernel
theorem dX0_isOut_17 : decode cX0_isOut 17 = .ok (.ishl, 1) := by decide +kernel
theorem dX0_isOut_18 : decode cX0_isOut 18 = .ok (.iconst 1, 1) := by decide +kernel
theorem dX0_isOut_19 : decode cX0_isOut 19 = .ok (.isub, 1) := by decide +kernel
theorem dX0_isOut_20 : decode cX0_isOut 20 = .ok (.if_icmp .ne 7, 3) := by decide +kernel
theorem dX0_isOut_23 : decode cX0_isOut 23 = .ok (.iconst 1, 1) := by decide +kernel
theorem dX0_isOut_24 : decode cX0_isOut 24 = .ok (.goto 4, 3) := by decide +kernel
theorem dX0_isOut_27 : decode cX0_isOut 27 = .ok (.iconst 0, 1) := by decide +kernel
theorem dX0_isOut_28 : decode cX0_isOut 28 = .ok (.ireturn, 1) := by decide +kernel
set_option maxRecDepth 20000 in
theorem ggX0_thingsOut_X0_isOut : GoodIn wsX0_thingsOut wsX0_isOut := goodIn_r _ [5, 6, 7, 8, 9, 4, 10, 11, 12, 13, 14, 15, 16, 17, 18, 19, 20, 21] (by decide +kernel) (by decide +kernel)
set_option maxRecDepth 20000 in
theorem gX0_thingsOut_X0_isOut : GoodIn wsX0_thingsOut (wsV RX0 78 RX0 yX0_isOut wsX0_isOut) := goodIn_app (goodIn_of _ (by decide +kernel)) ggX0_thingsOut_X0_isOut
theorem dX0_thingsOut_0 : decode cX0_thingsOut 0 = .ok (.iconst 0, 1) := by decide +kernel
theorem dX0_thingsOut_1 : decode cX0_thingsOut 1 = .ok (.istore_n 1, 1) := by decide +kernel
theorem dX0_thingsOut_2 : decode cX0_thingsOut 2 = .ok (.iconst 0, 1) := by decide +kernel
theorem dX0_thingsOut_3 : decode cX0_thingsOut 3 = .ok (.istore_n 2, 1) := by decide +kernel
theorem dX0_thingsOut_4 : decode cX0_thingsOut 4 = .ok (.iload_n 2, 1) := by decide +kernel
theorem dX0_thingsOut_5 : decode cX0_thingsOut 5 = .ok (.bipush 8, 2) := by decide +kernel
theorem dX0_thingsOut_7 : decode cX0_thingsOut 7 = .ok (.if_icmp .ge 27, 3) := by decide +kernel
theorem dX0_thingsOut_10 : decode cX0_thingsOut 10 = .ok (.iload_n 1, 1) := by decide +kernel
theorem dX0_thingsOut_11 : decode cX0_thingsOut 11 = .ok (.aload_n 0, 1) := by decide +kernel
theorem dX0_thingsOut_12 : decode cX0_thingsOut 12 = .ok (.iload_n 2, 1) := by decide +kernel
theorem dX0_thingsOut_13 : decode cX0_thingsOut 13 = .ok (.invokevirtual 78, 3) := by decide +kernel
theorem dX0_thingsOut_16 : decode cX0_thingsOut 16 = .ok (.ifCond .eq 9, 3) := by decide +kernel
theorem dX0_thingsOut_19 : decode cX0_thingsOut 19 = .ok (.iconst 1, 1) := by decide +kernel
theorem dX0_thingsOut_20 : decode cX0_thingsOut 20 = .ok (.iload_n 2, 1) := by decide +kernel
theorem dX0_thingsOut_21 : decode cX0_thingsOut 21 = .ok (.ishl, 1) := by decide +kernel
theorem dX0_thingsOut_22 : decode cX0_thingsOut 22 = .ok (.goto 4, 3) := by decide +kernel
theorem dX0_thingsOut_25 : decode cX0_thingsOut 25 = .ok (.iconst 0, 1) := by decide +kernel
theorem dX0_thingsOut_26 : decode cX0_thingsOut 26 = .ok (.ior, 1) := by decide +kernel
theorem dX0_thingsOut_27 : decode cX0_thingsOut 27 = .ok (.istore_n 1, 1) := by decide +kernel
theorem dX0_thingsOut_28 : decode cX0_thingsOut 28 = .ok (.iinc 2 1, 3) := by decide +kernel
theorem dX0_thingsOut_31 : decode cX0_thingsOut 31 = .ok (.goto (-27), 3) := by decide +kernel
theorem dX0_thingsOut_34 : decode cX0_thingsOut 34 = .ok (.iload_n 1, 1) := by decide +kernel
theorem dX0_thingsOut_35 : decode cX0_thingsOut 35 = .ok (.ireturn, 1) := by decide +kernel
set_option maxRecDepth 20000 in
theorem ggX0_timesKnown_J13_bitCount_95d88 : GoodIn wsX0_timesKnown wsJ13_bitCount_95d88 := goodIn_r _ [6, 7, 8, 9] (by decide +kernel) (by decide +kernel)
set_option maxRecDepth 20000 in
theorem gX0_timesKnown_J13_bitCount_95d88 : GoodIn wsX0_timesKnown (va_wsS RX0 69 yJ13_bitCount_95d88 wsJ13_bitCount_95d88) := goodIn_app (goodIn_of _ (by decide +kernel)) ggX0_timesKnown_J13_bitCount_95d88
theorem dX0_timesKnown_0 : decode cX0_timesKnown 0 = .ok (.iconst 0, 1) := by decide +kernel
theorem dX0_timesKnown_1 : decode cX0_timesKnown 1 = .ok (.istore_n 1, 1) := by decide +kernel
theorem dX0_timesKnown_2 : decode cX0_timesKnown 2 = .ok (.iconst 0, 1) := by decide +kernel
theorem dX0_timesKnown_3 : decode cX0_timesKnown 3 = .ok (.istore_n 2, 1) := by decide +kernel
theorem dX0_timesKnown_4 : decode cX0_timesKnown 4 = .ok (.iload_n 2, 1) := by decide +kernel
theorem dX0_timesKnown_5 : decode cX0_timesKnown 5 = .ok (.aload_n 0, 1) := by decide +kernel
theorem dX0_timesKnown_6 : decode cX0_timesKnown 6 = .ok (.getfield 44, 3) := by decide +kernel
theorem dX0_timesKnown_9 : decode cX0_timesKnown 9 = .ok (.if_icmp .ge 21, 3) := by decide +kernel
theorem dX0_timesKnown_12 : decode cX0_timesKnown 12 = .ok (.iload_n 1, 1) := by decide +kernel
theorem dX0_timesKnown_13 : decode cX0_timesKnown 13 = .ok (.aload_n 0, 1) := by decide +kernel
theorem dX0_timesKnown_14 : decode cX0_timesKnown 14 = .ok (.getfield 18, 3) := by decide +kernel
theorem dX0_timesKnown_17 : decode cX0_timesKnown 17 = .ok (.iload_n 2, 1) := by decide +kernel
theorem dX0_timesKnown_18 : decode cX0_timesKnown 18 = .ok (.laload, 1) := by decide +kernel
theorem dX0_timesKnown_19 : decode cX0_timesKnown 19 = .ok (.invokestatic 69, 3) := by decide +kernel
theorem dX0_timesKnown_22 : decode cX0_timesKnown 22 = .ok (.iadd, 1) := by decide +kernel
theorem dX0_timesKnown_23 : decode cX0_timesKnown 23 = .ok (.istore_n 1, 1) := by decide +kernel
theorem dX0_timesKnown_24 : decode cX0_timesKnown 24 = .ok (.iinc 2 1, 3) := by decide +kernel
theorem dX0_timesKnown_27 : decode cX0_timesKnown 27 = .ok (.goto (-23), 3) := by decide +kernel
theorem dX0_timesKnown_30 : decode cX0_timesKnown 30 = .ok (.iload_n 1, 1) := by decide +kernel
theorem dX0_timesKnown_31 : decode cX0_timesKnown 31 = .ok (.ireturn, 1) := by decide +kernel
set_option maxRecDepth 20000 in
theorem ggX0_timesOpen_X0_openOf : GoodIn wsX0_timesOpen wsX0_openOf := goodIn_r _ [6, 7, 8, 9, 10, 11, 12, 13, 14, 22, 23, 24, 25, 26, 27, 28, 29, 30, 31] (by decide +kernel) (by decide +kernel)
set_option maxRecDepth 20000 in
theorem gX0_timesOpen_X0_openOf : GoodIn wsX0_timesOpen (wsV RX0 82 RX0 yX0_openOf wsX0_openOf) := goodIn_app (goodIn_of _ (by decide +kernel)) ggX0_timesOpen_X0_openOf
set_option maxRecDepth 20000 in
theorem ggX0_timesOpen_J13_bitCount_95d88 : GoodIn wsX0_timesOpen wsJ13_bitCount_95d88 := goodIn_r _ [18, 19, 20, 21] (by decide +kernel) (by decide +kernel)
set_option maxRecDepth 20000 in
theorem gX0_timesOpen_J13_bitCount_95d88 : GoodIn wsX0_timesOpen (va_wsS RX0 69 yJ13_bitCount_95d88 wsJ13_bitCount_95d88) := goodIn_app (goodIn_of _ (by decide +kernel)) ggX0_timesOpen_J13_bitCount_95d88
theorem dX0_timesOpen_0 : decode cX0_timesOpen 0 = .ok (.iconst 0, 1) := by decide +kernel
theorem dX0_timesOpen_1 : decode cX0_timesOpen 1 = .ok (.istore_n 1, 1) := by decide +kernel
theorem dX0_timesOpen_2 : decode cX0_timesOpen 2 = .ok (.iconst 0, 1) := by decide +kernel
theorem dX0_timesOpen_3 : decode cX0_timesOpen 3 = .ok (.istore_n 2, 1) := by decide +kernel
theorem dX0_timesOpen_4 : decode cX0_timesOpen 4 = .ok (.iload_n 2, 1) := by decide +kernel
theorem dX0_timesOpen_5 : decode cX0_timesOpen 5 = .ok (.aload_n 0, 1) := by decide +kernel
theorem dX0_timesOpen_6 : decode cX0_timesOpen 6 = .ok (.getfield 44, 3) := by decide +kernel
theorem dX0_timesOpen_9 : decode cX0_timesOpen 9 = .ok (.if_icmp .ge 20, 3) := by decide +kernel
theorem dX0_timesOpen_12 : decode cX0_timesOpen 12 = .ok (.iload_n 1, 1) := by decide +kernel
theorem dX0_timesOpen_13 : decode cX0_timesOpen 13 = .ok (.aload_n 0, 1) := by decide +kernel
theorem dX0_timesOpen_14 : decode cX0_timesOpen 14 = .ok (.iload_n 2, 1) := by decide +kernel
theorem dX0_timesOpen_15 : decode cX0_timesOpen 15 = .ok (.invokevirtual 82, 3) := by decide +kernel
theorem dX0_timesOpen_18 : decode cX0_timesOpen 18 = .ok (.invokestatic 69, 3) := by decide +kernel
theorem dX0_timesOpen_21 : decode cX0_timesOpen 21 = .ok (.iadd, 1) := by decide +kernel
theorem dX0_timesOpen_22 : decode cX0_timesOpen 22 = .ok (.istore_n 1, 1) := by decide +kernel
theorem dX0_timesOpen_23 : decode cX0_timesOpen 23 = .ok (.iinc 2 1, 3) := by decide +kernel
theorem dX0_timesOpen_26 : decode cX0_timesOpen 26 = .ok (.goto (-22), 3) := by decide +kernel
theorem dX0_timesOpen_29 : decode cX0_timesOpen 29 = .ok (.iload_n 1, 1) := by decide +kernel
theorem dX0_timesOpen_30 : decode cX0_timesOpen 30 = .ok (.ireturn, 1) := by decide +kernel
theorem dX0_daysToRenewal_0 : decode cX0_daysToRenewal 0 = .ok (.aload_n 0, 1) := by decide +kernel
theorem dX0_daysToRenewal_1 : decode cX0_daysToRenewal 1 = .ok (.getfield 32, 3) := by decide +kernel
theorem dX0_daysToRenewal_4 : decode cX0_daysToRenewal 4 = .ok (.ifCond .le 20, 3) := by decide +kernel
theorem dX0_daysToRenewal_7 : decode cX0_daysToRenewal 7 = .ok (.aload_n 0, 1) := by decide +kernel
theorem dX0_daysToRenewal_8 : decode cX0_daysToRenewal 8 = .ok (.getfield 32, 3) := by decide +kernel
theorem dX0_daysToRenewal_11 : decode cX0_daysToRenewal 11 = .ok (.aload_n 0, 1) := by decide +kernel
theorem dX0_daysToRenewal_12 : decode cX0_daysToRenewal 12 = .ok (.getfield 47, 3) := by decide +kernel
theorem dX0_daysToRenewal_15 : decode cX0_daysToRenewal 15 = .ok (.aload_n 0, 1) := by decide +kernel
theorem dX0_daysToRenewal_16 : decode cX0_daysToRenewal 16 = .ok (.getfield 32, 3) := by decide +kernel
theorem dX0_daysToRenewal_19 : decode cX0_daysToRenewal 19 = .ok (.irem, 1) := by decide +kernel
theorem dX0_daysToRenewal_20 : decode cX0_daysToRenewal 20 = .ok (.isub, 1) := by decide +kernel
theorem dX0_daysToRenewal_21 : decode cX0_daysToRenewal 21 = .ok (.goto 4, 3) := by decide +kernel
theorem dX0_daysToRenewal_24 : decode cX0_daysToRenewal 24 = .ok (.iconst 0, 1) := by decide +kernel
theorem dX0_daysToRenewal_25 : decode cX0_daysToRenewal 25 = .ok (.ireturn, 1) := by decide +kernel
theorem dX0_renewAll_0 : decode cX0_renewAll 0 = .ok (.iconst 0, 1) := by decide +kernel
theorem dX0_renewAll_1 : decode cX0_renewAll 1 = .ok (.istore_n 1, 1) := by decide +kernel
theorem dX0_renewAll_2 : decode cX0_renewAll 2 = .ok (.iload_n 1, 1) := by decide +kernel
theorem dX0_renewAll_3 : decode cX0_renewAll 3 = .ok (.aload_n 0, 1) := by decide +kernel
theorem dX0_renewAll_4 : decode cX0_renewAll 4 = .ok (.getfield 44, 3) := by decide +kernel
theorem dX0_renewAll_7 : decode cX0_renewAll 7 = .ok (.if_icmp .ge 27, 3) := by decide +kernel
theorem dX0_renewAll_10 : decode cX0_renewAll 10 = .ok (.aload_n 0, 1) := by decide +kernel
theorem dX0_renewAll_11 : decode cX0_renewAll 11 = .ok (.getfield 22, 3) := by decide +kernel
theorem dX0_renewAll_14 : decode cX0_renewAll 14 = .ok (.iload_n 1, 1) := by decide +kernel
theorem dX0_renewAll_15 : decode cX0_renewAll 15 = .ok (.aload_n 0, 1) := by decide +kernel
theorem dX0_renewAll_16 : decode cX0_renewAll 16 = .ok (.getfield 18, 3) := by decide +kernel
theorem dX0_renewAll_19 : decode cX0_renewAll 19 = .ok (.iload_n 1, 1) := by decide +kernel
theorem dX0_renewAll_20 : decode cX0_renewAll 20 = .ok (.laload, 1) := by decide +kernel
theorem dX0_renewAll_21 : decode cX0_renewAll 21 = .ok (.aload_n 0, 1) := by decide +kernel
theorem dX0_renewAll_22 : decode cX0_renewAll 22 = .ok (.getfield 28, 3) := by decide +kernel
theorem dX0_renewAll_25 : decode cX0_renewAll 25 = .ok (.i2l, 1) := by decide +kernel
theorem dX0_renewAll_26 : decode cX0_renewAll 26 = .ok (.lmul, 1) := by decide +kernel
theorem dX0_renewAll_27 : decode cX0_renewAll 27 = .ok (.lastore, 1) := by decide +kernel
theorem dX0_renewAll_28 : decode cX0_renewAll 28 = .ok (.iinc 1 1, 3) := by decide +kernel
theorem dX0_renewAll_31 : decode cX0_renewAll 31 = .ok (.goto (-29), 3) := by decide +kernel
theorem dX0_renewAll_34 : decode cX0_renewAll 34 = .ok (.return_, 1) := by decide +kernel
theorem dX0_drawHeat_0 : decode cX0_drawHeat 0 = .ok (.aload_n 0, 1) := by decide +kernel
theorem dX0_drawHeat_1 : decode cX0_drawHeat 1 = .ok (.aload_n 0, 1) := by decide +kernel
theorem dX0_drawHeat_2 : decode cX0_drawHeat 2 = .ok (.getfield 35, 3) := by decide +kernel
theorem dX0_drawHeat_5 : decode cX0_drawHeat 5 = .ok (.ldc 85, 2) := by decide +kernel
theorem dX0_drawHeat_7 : decode cX0_drawHeat 7 = .ok (.imul, 1) := by decide +kernel
theorem dX0_drawHeat_8 : decode cX0_drawHeat 8 = .ok (.sipush 12345, 3) := by decide +kernel
theorem dX0_drawHeat_11 : decode cX0_drawHeat 11 = .ok (.iadd, 1) := by decide +kernel
theorem dX0_drawHeat_12 : decode cX0_drawHeat 12 = .ok (.ldc 86, 2) := by decide +kernel
theorem dX0_drawHeat_14 : decode cX0_drawHeat 14 = .ok (.iand, 1) := by decide +kernel
theorem dX0_drawHeat_15 : decode cX0_drawHeat 15 = .ok (.putfield 35, 3) := by decide +kernel
theorem dX0_drawHeat_18 : decode cX0_drawHeat 18 = .ok (.aload_n 0, 1) := by decide +kernel
theorem dX0_drawHeat_19 : decode cX0_drawHeat 19 = .ok (.getfield 35, 3) := by decide +kernel
theorem dX0_drawHeat_22 : decode cX0_drawHeat 22 = .ok (.ldc 87, 2) := by decide +kernel
theorem dX0_drawHeat_24 : decode cX0_drawHeat 24 = .ok (.idiv, 1) := by decide +kernel
theorem dX0_drawHeat_25 : decode cX0_drawHeat 25 = .ok (.bipush 10, 2) := by decide +kernel
theorem dX0_drawHeat_27 : decode cX0_drawHeat 27 = .ok (.irem, 1) := by decide +kernel
theorem dX0_drawHeat_28 : decode cX0_drawHeat 28 = .ok (.ireturn, 1) := by decide +kernel
set_option maxRecDepth 20000 in
theorem ggX0_live_X4_weakening : GoodIn wsX0_live wsX4_weakening := goodIn_r _ [9] (by decide +kernel) (by decide +kernel)
set_option maxRecDepth 20000 in
theorem gX0_live_X4_weakening_n88 : GoodIn wsX0_live (wsX4_weakening) := ggX0_live_X4_weakening
set_option maxRecDepth 20000 in
theorem ggX0_live_X4_weaker : GoodIn wsX0_live wsX4_weaker := goodIn_r _ [11, 12, 13, 14] (by decide +kernel) (by decide +kernel)
set_option maxRecDepth 20000 in
theorem gX0_live_X4_weaker_n92 : GoodIn wsX0_live (wsX4_weaker) := ggX0_live_X4_weaker
set_option maxRecDepth 20000 in
theorem ggX0_live_X4_tells : GoodIn wsX0_live wsX4_tells := goodIn_r _ [16] (by decide +kernel) (by decide +kernel)
set_option maxRecDepth 20000 in
theorem gX0_live_X4_tells_n96 : GoodIn wsX0_live (wsX4_tells) := ggX0_live_X4_tells
set_option maxRecDepth 20000 in
theorem ggX0_live_X0_openOf : GoodIn wsX0_live wsX0_openOf := goodIn_r _ [21, 22, 2, 23, 24, 8, 25, 26, 12, 54, 55, 56, 57, 58, 59, 60, 61, 62, 63] (by decide +kernel) (by decide +kernel)
set_option maxRecDepth 20000 in
theorem gX0_live_X0_openOf : GoodIn wsX0_live (wsV RX0 82 RX0 yX0_openOf wsX0_openOf) := goodIn_app (goodIn_of _ (by decide +kernel)) ggX0_live_X0_openOf
set_option maxRecDepth 20000 in
theorem ggX0_live_X0_hearAll : GoodIn wsX0_live wsX0_hearAll := goodIn_r _ [30, 1, 31, 5, 22, 23, 3, 32, 33, 34, 20, 35, 36, 8, 37, 38, 39, 40, 41, 42, 43, 44, 54, 55, 56, 57, 58, 59, 60, 61, 62, 63] (by decide +kernel) (by decide +kernel)
set_option maxRecDepth 20000 in
theorem gX0_live_X0_hearAll : GoodIn wsX0_live (wsV RX0 99 RX0 yX0_hearAll wsX0_hearAll) := goodIn_app (goodIn_of _ (by decide +kernel)) ggX0_live_X0_hearAll
set_option maxRecDepth 20000 in
theorem ggX0_live_X0_daysToRenewal : GoodIn wsX0_live wsX0_daysToRenewal := goodIn_r _ [48, 6, 4, 54, 55, 56, 57, 58, 59, 60, 61, 62, 63] (by decide +kernel) (by decide +kernel)
set_option maxRecDepth 20000 in
theorem gX0_live_X0_daysToRenewal : GoodIn wsX0_live (wsV RX0 103 RX0 yX0_daysToRenewal wsX0_daysToRenewal) := goodIn_app (goodIn_of _ (by decide +kernel)) ggX0_live_X0_daysToRenewal
set_option maxRecDepth 20000 in
theorem ggX0_live_X0_renewAll : GoodIn wsX0_live wsX0_renewAll := goodIn_r _ [52, 1, 2, 22, 53, 54, 55, 56, 57, 58, 59, 60, 61, 62, 63] (by decide +kernel) (by decide +kernel)
set_option maxRecDepth 20000 in
theorem gX0_live_X0_renewAll : GoodIn wsX0_live (wsV RX0 106 RX0 yX0_renewAll wsX0_renewAll) := goodIn_app (goodIn_of _ (by decide +kernel)) ggX0_live_X0_renewAll
theorem dX0_live_0 : decode cX0_live 0 = .ok (.iconst 0, 1) := by decide +kernel
theorem dX0_live_1 : decode cX0_live 1 = .ok (.istore_n 2, 1) := by decide +kernel
theorem dX0_live_2 : decode cX0_live 2 = .ok (.iload_n 2, 1) := by decide +kernel
theorem dX0_live_3 : decode cX0_live 3 = .ok (.aload_n 0, 1) := by decide +kernel
theorem dX0_live_4 : decode cX0_live 4 = .ok (.getfield 44, 3) := by decide +kernel
theorem dX0_live_7 : decode cX0_live 7 = .ok (.if_icmp .ge 65, 3) := by decide +kernel
theorem dX0_live_10 : decode cX0_live 10 = .ok (.aload_n 0, 1) := by decide +kernel
theorem dX0_live_11 : decode cX0_live 11 = .ok (.getfield 22, 3) := by decide +kernel
theorem dX0_live_14 : decode cX0_live 14 = .ok (.iload_n 2, 1) := by decide +kernel
theorem dX0_live_15 : decode cX0_live 15 = .ok (.aload_n 0, 1) := by decide +kernel
theorem dX0_live_16 : decode cX0_live 16 = .ok (.getfield 22, 3) := by decide +kernel
theorem dX0_live_19 : decode cX0_live 19 = .ok (.iload_n 2, 1) := by decide +kernel
theorem dX0_live_20 : decode cX0_live 20 = .ok (.laload, 1) := by decide +kernel
theorem dX0_live_21 : decode cX0_live 21 = .ok (.aload_n 0, 1) := by decide +kernel
theorem dX0_live_22 : decode cX0_live 22 = .ok (.getfield 9, 3) := by decide +kernel
theorem dX0_live_25 : decode cX0_live 25 = .ok (.iload_n 2, 1) := by decide +kernel
theorem dX0_live_26 : decode cX0_live 26 = .ok (.iaload, 1) := by decide +kernel
theorem dX0_live_27 : decode cX0_live 27 = .ok (.iload_n 1, 1) := by decide +kernel
theorem dX0_live_28 : decode cX0_live 28 = .ok (.aload_n 0, 1) := by decide +kernel
theorem dX0_live_29 : decode cX0_live 29 = .ok (.getfield 47, 3) := by decide +kernel
theorem dX0_live_32 : decode cX0_live 32 = .ok (.invokestatic 88, 3) := by decide +kernel
theorem dX0_live_35 : decode cX0_live 35 = .ok (.invokestatic 92, 3) := by decide +kernel
theorem dX0_live_38 : decode cX0_live 38 = .ok (.lastore, 1) := by decide +kernel
theorem dX0_live_39 : decode cX0_live 39 = .ok (.aload_n 0, 1) := by decide +kernel
theorem dX0_live_40 : decode cX0_live 40 = .ok (.getfield 25, 3) := by decide +kernel
theorem dX0_live_43 : decode cX0_live 43 = .ok (.iload_n 2, 1) := by decide +kernel
theorem dX0_live_44 : decode cX0_live 44 = .ok (.aload_n 0, 1) := by decide +kernel
theorem dX0_live_45 : decode cX0_live 45 = .ok (.getfield 9, 3) := by decide +kernel
theorem dX0_live_48 : decode cX0_live 48 = .ok (.iload_n 2, 1) := by decide +kernel
theorem dX0_live_49 : decode cX0_live 49 = .ok (.iaload, 1) := by decide +kernel
theorem dX0_live_50 : decode cX0_live 50 = .ok (.invokestatic 96, 3) := by decide +kernel
theorem dX0_live_53 : decode cX0_live 53 = .ok (.ifCond .eq 11, 3) := by decide +kernel
theorem dX0_live_56 : decode cX0_live 56 = .ok (.aload_n 0, 1) := by decide +kernel
theorem dX0_live_57 : decode cX0_live 57 = .ok (.iload_n 2, 1) := by decide +kernel
theorem dX0_live_58 : decode cX0_live 58 = .ok (.invokevirtual 82, 3) := by decide +kernel
theorem dX0_live_61 : decode cX0_live 61 = .ok (.goto 4, 3) := by decide +kernel
theorem dX0_live_64 : decode cX0_live 64 = .ok (.lconst 0, 1) := by decide +kernel
theorem dX0_live_65 : decode cX0_live 65 = .ok (.lastore, 1) := by decide +kernel
theorem dX0_live_66 : decode cX0_live 66 = .ok (.iinc 2 1, 3) := by decide +kernel
theorem dX0_live_69 : decode cX0_live 69 = .ok (.goto (-67), 3) := by decide +kernel
theorem dX0_live_72 : decode cX0_live 72 = .ok (.aload_n 0, 1) := by decide +kernel
theorem dX0_live_73 : decode cX0_live 73 = .ok (.invokevirtual 99, 3) := by decide +kernel
theorem dX0_live_76 : decode cX0_live 76 = .ok (.istore_n 2, 1) := by decide +kernel
theorem dX0_live_77 : decode cX0_live 77 = .ok (.aload_n 0, 1) := by decide +kernel
theorem dX0_live_78 : decode cX0_live 78 = .ok (.dup, 1) := by decide +kernel
theorem dX0_live_79 : decode cX0_live 79 = .ok (.getfield 47, 3) := by decide +kernel
theorem dX0_live_82 : decode cX0_live 82 = .ok (.iconst 1, 1) := by decide +kernel
theorem dX0_live_83 : decode cX0_live 83 = .ok (.iadd, 1) := by decide +kernel
theorem dX0_live_84 : decode cX0_live 84 = .ok (.putfield 47, 3) := by decide +kernel
theorem dX0_live_87 : decode cX0_live 87 = .ok (.aload_n 0, 1) := by decide +kernel
theorem dX0_live_88 : decode cX0_live 88 = .ok (.invokevirtual 103, 3) := by decide +kernel
theorem dX0_live_91 : decode cX0_live 91 = .ok (.aload_n 0, 1) := by decide +kernel
theorem dX0_live_92 : decode cX0_live 92 = .ok (.getfield 32, 3) := by decide +kernel
theorem dX0_live_95 : decode cX0_live 95 = .ok (.if_icmp .ne 7, 3) := by decide +kernel
theorem dX0_live_98 : decode cX0_live 98 = .ok (.aload_n 0, 1) := by decide +kernel
theorem dX0_live_99 : decode cX0_live 99 = .ok (.invokevirtual 106, 3) := by decide +kernel
theorem dX0_live_102 : decode cX0_live 102 = .ok (.iload_n 2, 1) := by decide +kernel
theorem dX0_live_103 : decode cX0_live 103 = .ok (.ireturn, 1) := by decide +kernel
set_option maxRecDepth 20000 in
theorem ggX0_hearAll_X0_around : GoodIn wsX0_hearAll wsX0_around := goodIn_r _ [11, 1, 22, 23, 24, 25, 26, 27, 28, 29, 30, 31] (by decide +kernel) (by decide +kernel)
set_option maxRecDepth 20000 in
theorem gX0_hearAll_X0_around : GoodIn wsX0_hearAll (wsV RX0 54 RX0 yX0_around wsX0_around) := goodIn_app (goodIn_of _ (by decide +kernel)) ggX0_hearAll_X0_around
set_option maxRecDepth 20000 in
theorem ggX0_hearAll_X4_hears : GoodIn wsX0_hearAll wsX4_hears := goodIn_r _ [14] (by decide +kernel) (by decide +kernel)
set_option maxRecDepth 20000 in
theorem gX0_hearAll_X4_hears_n109 : GoodIn wsX0_hearAll (wsX4_hears) := ggX0_hearAll_X4_hears
set_option maxRecDepth 20000 in
theorem ggX0_hearAll_J13_bitCount_95d88 : GoodIn wsX0_hearAll wsJ13_bitCount_95d88 := goodIn_r _ [18, 19, 20, 21] (by decide +kernel) (by decide +kernel)
set_option maxRecDepth 20000 in
theorem gX0_hearAll_J13_bitCount_95d88 : GoodIn wsX0_hearAll (va_wsS RX0 69 yJ13_bitCount_95d88 wsJ13_bitCount_95d88) := goodIn_app (goodIn_of _ (by decide +kernel)) ggX0_hearAll_J13_bitCount_95d88
theorem dX0_hearAll_0 : decode cX0_hearAll 0 = .ok (.iconst 0, 1) := by decide +kernel
theorem dX0_hearAll_1 : decode cX0_hearAll 1 = .ok (.istore_n 1, 1) := by decide +kernel
theorem dX0_hearAll_2 : decode cX0_hearAll 2 = .ok (.iconst 0, 1) := by decide +kernel
theorem dX0_hearAll_3 : decode cX0_hearAll 3 = .ok (.istore_n 2, 1) := by decide +kernel
theorem dX0_hearAll_4 : decode cX0_hearAll 4 = .ok (.iload_n 2, 1) := by decide +kernel
theorem dX0_hearAll_5 : decode cX0_hearAll 5 = .ok (.aload_n 0, 1) := by decide +kernel
theorem dX0_hearAll_6 : decode cX0_hearAll 6 = .ok (.getfield 44, 3) := by decide +kernel
theorem dX0_hearAll_9 : decode cX0_hearAll 9 = .ok (.if_icmp .ge 111, 3) := by decide +kernel
theorem dX0_hearAll_12 : decode cX0_hearAll 12 = .ok (.aload_n 0, 1) := by decide +kernel
theorem dX0_hearAll_13 : decode cX0_hearAll 13 = .ok (.getfield 15, 3) := by decide +kernel
theorem dX0_hearAll_16 : decode cX0_hearAll 16 = .ok (.iload_n 2, 1) := by decide +kernel
theorem dX0_hearAll_17 : decode cX0_hearAll 17 = .ok (.iaload, 1) := by decide +kernel
theorem dX0_hearAll_18 : decode cX0_hearAll 18 = .ok (.istore_n 3, 1) := by decide +kernel
theorem dX0_hearAll_19 : decode cX0_hearAll 19 = .ok (.aload_n 0, 1) := by decide +kernel
theorem dX0_hearAll_20 : decode cX0_hearAll 20 = .ok (.getfield 25, 3) := by decide +kernel
theorem dX0_hearAll_23 : decode cX0_hearAll 23 = .ok (.aload_n 0, 1) := by decide +kernel
theorem dX0_hearAll_24 : decode cX0_hearAll 24 = .ok (.getfield 15, 3) := by decide +kernel
theorem dX0_hearAll_27 : decode cX0_hearAll 27 = .ok (.aload_n 0, 1) := by decide +kernel
theorem dX0_hearAll_28 : decode cX0_hearAll 28 = .ok (.iload_n 2, 1) := by decide +kernel
theorem dX0_hearAll_29 : decode cX0_hearAll 29 = .ok (.iconst 1, 1) := by decide +kernel
theorem dX0_hearAll_30 : decode cX0_hearAll 30 = .ok (.iadd, 1) := by decide +kernel
theorem dX0_hearAll_31 : decode cX0_hearAll 31 = .ok (.invokevirtual 54, 3) := by decide +kernel
theorem dX0_hearAll_34 : decode cX0_hearAll 34 = .ok (.iaload, 1) := by decide +kernel
theorem dX0_hearAll_35 : decode cX0_hearAll 35 = .ok (.laload, 1) := by decide +kernel
theorem dX0_hearAll_36 : decode cX0_hearAll 36 = .ok (.aload_n 0, 1) := by decide +kernel
theorem dX0_hearAll_37 : decode cX0_hearAll 37 = .ok (.getfield 25, 3) := by decide +kernel
theorem dX0_hearAll_40 : decode cX0_hearAll 40 = .ok (.aload_n 0, 1) := by decide +kernel
theorem dX0_hearAll_41 : decode cX0_hearAll 41 = .ok (.getfield 15, 3) := by decide +kernel
theorem dX0_hearAll_44 : decode cX0_hearAll 44 = .ok (.aload_n 0, 1) := by decide +kernel
theorem dX0_hearAll_45 : decode cX0_hearAll 45 = .ok (.iload_n 2, 1) := by decide +kernel
theorem dX0_hearAll_46 : decode cX0_hearAll 46 = .ok (.aload_n 0, 1) := by decide +kernel
theorem dX0_hearAll_47 : decode cX0_hearAll 47 = .ok (.getfield 44, 3) := by decide +kernel
theorem dX0_hearAll_50 : decode cX0_hearAll 50 = .ok (.iadd, 1) := by decide +kernel
theorem dX0_hearAll_51 : decode cX0_hearAll 51 = .ok (.iconst 1, 1) := by decide +kernel
theorem dX0_hearAll_52 : decode cX0_hearAll 52 = .ok (.isub, 1) := by decide +kernel
theorem dX0_hearAll_53 : decode cX0_hearAll 53 = .ok (.invokevirtual 54, 3) := by decide +kernel
theorem dX0_hearAll_56 : decode cX0_hearAll 56 = .ok (.iaload, 1) := by decide +kernel
theorem dX0_hearAll_57 : decode cX0_hearAll 57 = .ok (.laload, 1) := by decide +kernel
theorem dX0_hearAll_58 : decode cX0_hearAll 58 = .ok (.lor, 1) := by decide +kernel
theorem dX0_hearAll_59 : decode cX0_hearAll 59 = .ok (.lstore 4, 2) := by decide +kernel
theorem dX0_hearAll_61 : decode cX0_hearAll 61 = .ok (.lload 4, 2) := by decide +kernel
theorem dX0_hearAll_63 : decode cX0_hearAll 63 = .ok (.aload_n 0, 1) := by decide +kernel
theorem dX0_hearAll_64 : decode cX0_hearAll 64 = .ok (.getfield 18, 3) := by decide +kernel
theorem dX0_hearAll_67 : decode cX0_hearAll 67 = .ok (.iload_n 3, 1) := by decide +kernel
theorem dX0_hearAll_68 : decode cX0_hearAll 68 = .ok (.laload, 1) := by decide +kernel
theorem dX0_hearAll_69 : decode cX0_hearAll 69 = .ok (.ldc2_w 63, 3) := by decide +kernel
theorem dX0_hearAll_72 : decode cX0_hearAll 72 = .ok (.lxor, 1) := by decide +kernel
theorem dX0_hearAll_73 : decode cX0_hearAll 73 = .ok (.land, 1) := by decide +kernel
theorem dX0_hearAll_74 : decode cX0_hearAll 74 = .ok (.lstore 6, 2) := by decide +kernel
theorem dX0_hearAll_76 : decode cX0_hearAll 76 = .ok (.lload 6, 2) := by decide +kernel
theorem dX0_hearAll_78 : decode cX0_hearAll 78 = .ok (.lconst 0, 1) := by decide +kernel
theorem dX0_hearAll_79 : decode cX0_hearAll 79 = .ok (.lcmp, 1) := by decide +kernel
theorem dX0_hearAll_80 : decode cX0_hearAll 80 = .ok (.ifCond .eq 34, 3) := by decide +kernel
theorem dX0_hearAll_83 : decode cX0_hearAll 83 = .ok (.aload_n 0, 1) := by decide +kernel
theorem dX0_hearAll_84 : decode cX0_hearAll 84 = .ok (.getfield 9, 3) := by decide +kernel
theorem dX0_hearAll_87 : decode cX0_hearAll 87 = .ok (.iload_n 3, 1) := by decide +kernel
theorem dX0_hearAll_88 : decode cX0_hearAll 88 = .ok (.iaload, 1) := by decide +kernel
theorem dX0_hearAll_89 : decode cX0_hearAll 89 = .ok (.invokestatic 109, 3) := by decide +kernel
theorem dX0_hearAll_92 : decode cX0_hearAll 92 = .ok (.ifCond .eq 22, 3) := by decide +kernel
theorem dX0_hearAll_95 : decode cX0_hearAll 95 = .ok (.aload_n 0, 1) := by decide +kernel
theorem dX0_hearAll_96 : decode cX0_hearAll 96 = .ok (.getfield 18, 3) := by decide +kernel
theorem dX0_hearAll_99 : decode cX0_hearAll 99 = .ok (.iload_n 3, 1) := by decide +kernel
theorem dX0_hearAll_100 : decode cX0_hearAll 100 = .ok (.dup2, 1) := by decide +kernel
theorem dX0_hearAll_101 : decode cX0_hearAll 101 = .ok (.laload, 1) := by decide +kernel
theorem dX0_hearAll_102 : decode cX0_hearAll 102 = .ok (.lload 6, 2) := by decide +kernel
theorem dX0_hearAll_104 : decode cX0_hearAll 104 = .ok (.lor, 1) := by decide +kernel
theorem dX0_hearAll_105 : decode cX0_hearAll 105 = .ok (.lastore, 1) := by decide +kernel
theorem dX0_hearAll_106 : decode cX0_hearAll 106 = .ok (.iload_n 1, 1) := by decide +kernel
theorem dX0_hearAll_107 : decode cX0_hearAll 107 = .ok (.lload 6, 2) := by decide +kernel
theorem dX0_hearAll_109 : decode cX0_hearAll 109 = .ok (.invokestatic 69, 3) := by decide +kernel
theorem dX0_hearAll_112 : decode cX0_hearAll 112 = .ok (.iadd, 1) := by decide +kernel
theorem dX0_hearAll_113 : decode cX0_hearAll 113 = .ok (.istore_n 1, 1) := by decide +kernel
theorem dX0_hearAll_114 : decode cX0_hearAll 114 = .ok (.iinc 2 1, 3) := by decide +kernel
theorem dX0_hearAll_117 : decode cX0_hearAll 117 = .ok (.goto (-113), 3) := by decide +kernel
theorem dX0_hearAll_120 : decode cX0_hearAll 120 = .ok (.iload_n 1, 1) := by decide +kernel
theorem dX0_hearAll_121 : decode cX0_hearAll 121 = .ok (.ireturn, 1) := by decide +kernel
set_option maxRecDepth 20000 in
theorem ggX0_liveDays_X0_live : GoodIn wsX0_liveDays wsX0_live := goodIn_r _ [5, 6, 7, 8, 9, 10, 11, 12, 13, 14, 15, 16, 17, 18, 19, 20, 21, 22, 23, 24, 4, 25, 26, 27, 28, 29, 30, 31, 32, 33, 34, 35, 36, 37, 38, 39, 40, 41, 42, 43, 44, 45, 46, 47, 48, 49, 50, 51, 52, 53, 54, 55, 56, 57, 58, 59, 60, 61, 62, 63, 64, 65, 66, 67] (by decide +kernel) (by decide +kernel)
set_option maxRecDepth 20000 in
theorem gX0_liveDays_X0_live : GoodIn wsX0_liveDays (wsV RX0 112 RX0 yX0_live wsX0_live) := goodIn_app (goodIn_of _ (by decide +kernel)) ggX0_liveDays_X0_live
theorem dX0_liveDays_0 : decode cX0_liveDays 0 = .ok (.iconst 0, 1) := by decide +kernel
theorem dX0_liveDays_1 : decode cX0_liveDays 1 = .ok (.istore_n 3, 1) := by decide +kernel
theorem dX0_liveDays_2 : decode cX0_liveDays 2 = .ok (.iconst 0, 1) := by decide +kernel
theorem dX0_liveDays_3 : decode cX0_liveDays 3 = .ok (.istore 4, 2) := by decide +kernel
theorem dX0_liveDays_5 : decode cX0_liveDays 5 = .ok (.iload 4, 2) := by decide +kernel
theorem dX0_liveDays_7 : decode cX0_liveDays 7 = .ok (.iload_n 1, 1) := by decide +kernel
theorem dX0_liveDays_8 : decode cX0_liveDays 8 = .ok (.if_icmp .ge 17, 3) := by decide +kernel
theorem dX0_liveDays_11 : decode cX0_liveDays 11 = .ok (.iload_n 3, 1) := by decide +kernel
theorem dX0_liveDays_12 : decode cX0_liveDays 12 = .ok (.aload_n 0, 1) := by decide +kernel
theorem dX0_liveDays_13 : decode cX0_liveDays 13 = .ok (.iload_n 2, 1) := by decide +kernel
theorem dX0_liveDays_14 : decode cX0_liveDays 14 = .ok (.invokevirtual 112, 3) := by decide +kernel
theorem dX0_liveDays_17 : decode cX0_liveDays 17 = .ok (.iadd, 1) := by decide +kernel
theorem dX0_liveDays_18 : decode cX0_liveDays 18 = .ok (.istore_n 3, 1) := by decide +kernel
theorem dX0_liveDays_19 : decode cX0_liveDays 19 = .ok (.iinc 4 1, 3) := by decide +kernel
theorem dX0_liveDays_22 : decode cX0_liveDays 22 = .ok (.goto (-17), 3) := by decide +kernel
theorem dX0_liveDays_25 : decode cX0_liveDays 25 = .ok (.iload_n 3, 1) := by decide +kernel
theorem dX0_liveDays_26 : decode cX0_liveDays 26 = .ok (.ireturn, 1) := by decide +kernel
set_option maxRecDepth 20000 in
theorem ggX0_liveUntilLeaks_X0_live : GoodIn wsX0_liveUntilLeaks wsX0_live := goodIn_r _ [5, 6, 7, 8, 9, 10, 11, 12, 13, 14, 15, 16, 17, 18, 19, 20, 21, 22, 23, 24, 4, 25, 26, 27, 28, 29, 30, 31, 32, 33, 34, 35, 36, 37, 38, 39, 40, 41, 42, 43, 44, 45, 46, 47, 48, 49, 50, 51, 52, 53, 54, 55, 56, 57, 58, 59, 60, 61, 62, 63, 64, 65, 66, 67] (by decide +kernel) (by decide +kernel)
set_option maxRecDepth 20000 in
theorem gX0_liveUntilLeaks_X0_live : GoodIn wsX0_liveUntilLeaks (wsV RX0 112 RX0 yX0_live wsX0_live) := goodIn_app (goodIn_of _ (by decide +kernel)) ggX0_liveUntilLeaks_X0_live
theorem dX0_liveUntilLeaks_0 : decode cX0_liveUntilLeaks 0 = .ok (.iconst 0, 1) := by decide +kernel
theorem dX0_liveUntilLeaks_1 : decode cX0_liveUntilLeaks 1 = .ok (.istore 4, 2) := by decide +kernel
theorem dX0_liveUntilLeaks_3 : decode cX0_liveUntilLeaks 3 = .ok (.iconst 0, 1) := by decide +kernel
theorem dX0_liveUntilLeaks_4 : decode cX0_liveUntilLeaks 4 = .ok (.istore 5, 2) := by decide +kernel
theorem dX0_liveUntilLeaks_6 : decode cX0_liveUntilLeaks 6 = .ok (.iload 5, 2) := by decide +kernel
theorem dX0_liveUntilLeaks_8 : decode cX0_liveUntilLeaks 8 = .ok (.iload_n 1, 1) := by decide +kernel
theorem dX0_liveUntilLeaks_9 : decode cX0_liveUntilLeaks 9 = .ok (.if_icmp .ge 25, 3) := by decide +kernel
theorem dX0_liveUntilLeaks_12 : decode cX0_liveUntilLeaks 12 = .ok (.iload 4, 2) := by decide +kernel
theorem dX0_liveUntilLeaks_14 : decode cX0_liveUntilLeaks 14 = .ok (.iload_n 3, 1) := by decide +kernel
theorem dX0_liveUntilLeaks_15 : decode cX0_liveUntilLeaks 15 = .ok (.if_icmp .ge 19, 3) := by decide +kernel
theorem dX0_liveUntilLeaks_18 : decode cX0_liveUntilLeaks 18 = .ok (.iload 4, 2) := by decide +kernel
theorem dX0_liveUntilLeaks_20 : decode cX0_liveUntilLeaks 20 = .ok (.aload_n 0, 1) := by decide +kernel
theorem dX0_liveUntilLeaks_21 : decode cX0_liveUntilLeaks 21 = .ok (.iload_n 2, 1) := by decide +kernel
theorem dX0_liveUntilLeaks_22 : decode cX0_liveUntilLeaks 22 = .ok (.invokevirtual 112, 3) := by decide +kernel
theorem dX0_liveUntilLeaks_25 : decode cX0_liveUntilLeaks 25 = .ok (.iadd, 1) := by decide +kernel
theorem dX0_liveUntilLeaks_26 : decode cX0_liveUntilLeaks 26 = .ok (.istore 4, 2) := by decide +kernel
theorem dX0_liveUntilLeaks_28 : decode cX0_liveUntilLeaks 28 = .ok (.iinc 5 1, 3) := by decide +kernel
theorem dX0_liveUntilLeaks_31 : decode cX0_liveUntilLeaks 31 = .ok (.goto (-25), 3) := by decide +kernel
theorem dX0_liveUntilLeaks_34 : decode cX0_liveUntilLeaks 34 = .ok (.iload 4, 2) := by decide +kernel
theorem dX0_liveUntilLeaks_36 : decode cX0_liveUntilLeaks 36 = .ok (.ireturn, 1) := by decide +kernel
set_option maxRecDepth 20000 in
theorem ggX0_firstOut_X0_isOut : GoodIn wsX0_firstOut wsX0_isOut := goodIn_r _ [5, 6, 7, 8, 9, 4, 10, 11, 66, 67, 68, 69, 70, 71, 72, 73, 74, 75] (by decide +kernel) (by decide +kernel)
set_option maxRecDepth 20000 in
theorem gX0_firstOut_X0_isOut : GoodIn wsX0_firstOut (wsV RX0 78 RX0 yX0_isOut wsX0_isOut) := goodIn_app (goodIn_of _ (by decide +kernel)) ggX0_firstOut_X0_isOut
set_option maxRecDepth 20000 in
theorem ggX0_firstOut_X0_live : GoodIn wsX0_firstOut wsX0_live := goodIn_r _ [15, 6, 16, 17, 18, 19, 20, 21, 22, 23, 24, 25, 26, 27, 28, 29, 30, 31, 32, 33, 4, 34, 11, 35, 36, 37, 38, 39, 40, 41, 42, 43, 44, 45, 46, 47, 48, 49, 50, 51, 52, 53, 54, 55, 56, 57, 58, 59, 60, 61, 62, 63, 64, 65, 66, 67, 68, 69, 70, 71, 72, 73, 74, 75] (by decide +kernel) (by decide +kernel)
set_option maxRecDepth 20000 in
theorem gX0_firstOut_X0_live : GoodIn wsX0_firstOut (wsV RX0 112 RX0 yX0_live wsX0_live) := goodIn_app (goodIn_of _ (by decide +kernel)) ggX0_firstOut_X0_live
theorem dX0_firstOut_0 : decode cX0_firstOut 0 = .ok (.iconst 0, 1) := by decide +kernel
theorem dX0_firstOut_1 : decode cX0_firstOut 1 = .ok (.istore 4, 2) := by decide +kernel
theorem dX0_firstOut_3 : decode cX0_firstOut 3 = .ok (.iload 4, 2) := by decide +kernel
theorem dX0_firstOut_5 : decode cX0_firstOut 5 = .ok (.iload_n 2, 1) := by decide +kernel
theorem dX0_firstOut_6 : decode cX0_firstOut 6 = .ok (.if_icmp .ge 26, 3) := by decide +kernel
theorem dX0_firstOut_9 : decode cX0_firstOut 9 = .ok (.aload_n 0, 1) := by decide +kernel
theorem dX0_firstOut_10 : decode cX0_firstOut 10 = .ok (.iload_n 1, 1) := by decide +kernel
theorem dX0_firstOut_11 : decode cX0_firstOut 11 = .ok (.invokevirtual 78, 3) := by decide +kernel
theorem dX0_firstOut_14 : decode cX0_firstOut 14 = .ok (.ifCond .eq 6, 3) := by decide +kernel
theorem dX0_firstOut_17 : decode cX0_firstOut 17 = .ok (.iload 4, 2) := by decide +kernel
theorem dX0_firstOut_19 : decode cX0_firstOut 19 = .ok (.ireturn, 1) := by decide +kernel
theorem dX0_firstOut_20 : decode cX0_firstOut 20 = .ok (.aload_n 0, 1) := by decide +kernel
theorem dX0_firstOut_21 : decode cX0_firstOut 21 = .ok (.iload_n 3, 1) := by decide +kernel
theorem dX0_firstOut_22 : decode cX0_firstOut 22 = .ok (.invokevirtual 112, 3) := by decide +kernel
theorem dX0_firstOut_25 : decode cX0_firstOut 25 = .ok (.pop, 1) := by decide +kernel
theorem dX0_firstOut_26 : decode cX0_firstOut 26 = .ok (.iinc 4 1, 3) := by decide +kernel
theorem dX0_firstOut_29 : decode cX0_firstOut 29 = .ok (.goto (-26), 3) := by decide +kernel
theorem dX0_firstOut_32 : decode cX0_firstOut 32 = .ok (.aload_n 0, 1) := by decide +kernel
theorem dX0_firstOut_33 : decode cX0_firstOut 33 = .ok (.iload_n 1, 1) := by decide +kernel
theorem dX0_firstOut_34 : decode cX0_firstOut 34 = .ok (.invokevirtual 78, 3) := by decide +kernel
theorem dX0_firstOut_37 : decode cX0_firstOut 37 = .ok (.ifCond .eq 7, 3) := by decide +kernel
theorem dX0_firstOut_40 : decode cX0_firstOut 40 = .ok (.iload_n 2, 1) := by decide +kernel
theorem dX0_firstOut_41 : decode cX0_firstOut 41 = .ok (.goto 5, 3) := by decide +kernel
theorem dX0_firstOut_44 : decode cX0_firstOut 44 = .ok (.bipush (-4), 2) := by decide +kernel
theorem dX0_firstOut_46 : decode cX0_firstOut 46 = .ok (.ireturn, 1) := by decide +kernel
theorem dX1_init_0 : decode cX1_init 0 = .ok (.aload_n 0, 1) := by decide +kernel
theorem dX1_init_1 : decode cX1_init 1 = .ok (.invokespecial 3, 3) := by decide +kernel
theorem dX1_init_4 : decode cX1_init 4 = .ok (.aload_n 0, 1) := by decide +kernel
theorem dX1_init_5 : decode cX1_init 5 = .ok (.bipush 48, 2) := by decide +kernel
theorem dX1_init_7 : decode cX1_init 7 = .ok (.newarray .long, 2) := by decide +kernel
theorem dX1_init_9 : decode cX1_init 9 = .ok (.putfield 9, 3) := by decide +kernel
theorem dX1_init_12 : decode cX1_init 12 = .ok (.aload_n 0, 1) := by decide +kernel
theorem dX1_init_13 : decode cX1_init 13 = .ok (.bipush 48, 2) := by decide +kernel
theorem dX1_init_15 : decode cX1_init 15 = .ok (.newarray .long, 2) := by decide +kernel
theorem dX1_init_17 : decode cX1_init 17 = .ok (.putfield 15, 3) := by decide +kernel
theorem dX1_init_20 : decode cX1_init 20 = .ok (.aload_n 0, 1) := by decide +kernel
theorem dX1_init_21 : decode cX1_init 21 = .ok (.bipush 8, 2) := by decide +kernel
theorem dX1_init_23 : decode cX1_init 23 = .ok (.newarray .int, 2) := by decide +kernel
theorem dX1_init_25 : decode cX1_init 25 = .ok (.putfield 18, 3) := by decide +kernel
theorem dX1_init_28 : decode cX1_init 28 = .ok (.aload_n 0, 1) := by decide +kernel
theorem dX1_init_29 : decode cX1_init 29 = .ok (.bipush 8, 2) := by decide +kernel
theorem dX1_init_31 : decode cX1_init 31 = .ok (.newarray .int, 2) := by decide +kernel
theorem dX1_init_33 : decode cX1_init 33 = .ok (.putfield 22, 3) := by decide +kernel
theorem dX1_init_36 : decode cX1_init 36 = .ok (.return_, 1) := by decide +kernel
theorem dX1_become_0 : decode cX1_become 0 = .ok (.aload_n 1, 1) := by decide +kernel
theorem dX1_become_1 : decode cX1_become 1 = .ok (.getfield 9, 3) := by decide +kernel
theorem dX1_become_4 : decode cX1_become 4 = .ok (.iconst 0, 1) := by decide +kernel
theorem dX1_become_5 : decode cX1_become 5 = .ok (.aload_n 0, 1) := by decide +kernel
theorem dX1_become_6 : decode cX1_become 6 = .ok (.getfield 9, 3) := by decide +kernel
theorem dX1_become_9 : decode cX1_become 9 = .ok (.iconst 0, 1) := by decide +kernel
theorem dX1_become_10 : decode cX1_become 10 = .ok (.bipush 48, 2) := by decide +kernel
theorem dX1_become_12 : decode cX1_become 12 = .ok (.invokestatic 25, 3) := by decide +kernel
theorem dX1_become_15 : decode cX1_become 15 = .ok (.aload_n 1, 1) := by decide +kernel
theorem dX1_become_16 : decode cX1_become 16 = .ok (.getfield 15, 3) := by decide +kernel
theorem dX1_become_19 : decode cX1_become 19 = .ok (.iconst 0, 1) := by decide +kernel
theorem dX1_become_20 : decode cX1_become 20 = .ok (.aload_n 0, 1) := by decide +kernel
theorem dX1_become_21 : decode cX1_become 21 = .ok (.getfield 15, 3) := by decide +kernel
theorem dX1_become_24 : decode cX1_become 24 = .ok (.iconst 0, 1) := by decide +kernel
theorem dX1_become_25 : decode cX1_become 25 = .ok (.bipush 48, 2) := by decide +kernel
theorem dX1_become_27 : decode cX1_become 27 = .ok (.invokestatic 25, 3) := by decide +kernel
theorem dX1_become_30 : decode cX1_become 30 = .ok (.aload_n 1, 1) := by decide +kernel
theorem dX1_become_31 : decode cX1_become 31 = .ok (.getfield 18, 3) := by decide +kernel
theorem dX1_become_34 : decode cX1_become 34 = .ok (.iconst 0, 1) := by decide +kernel
theorem dX1_become_35 : decode cX1_become 35 = .ok (.aload_n 0, 1) := by decide +kernel
theorem dX1_become_36 : decode cX1_become 36 = .ok (.getfield 18, 3) := by decide +kernel
theorem dX1_become_39 : decode cX1_become 39 = .ok (.iconst 0, 1) := by decide +kernel
theorem dX1_become_40 : decode cX1_become 40 = .ok (.bipush 8, 2) := by decide +kernel
theorem dX1_become_42 : decode cX1_become 42 = .ok (.invokestatic 25, 3) := by decide +kernel
theorem dX1_become_45 : decode cX1_become 45 = .ok (.aload_n 1, 1) := by decide +kernel
theorem dX1_become_46 : decode cX1_become 46 = .ok (.getfield 22, 3) := by decide +kernel
theorem dX1_become_49 : decode cX1_become 49 = .ok (.iconst 0, 1) := by decide +kernel
theorem dX1_become_50 : decode cX1_become 50 = .ok (.aload_n 0, 1) := by decide +kernel
theorem dX1_become_51 : decode cX1_become 51 = .ok (.getfield 22, 3) := by decide +kernel
theorem dX1_become_54 : decode cX1_become 54 = .ok (.iconst 0, 1) := by decide +kernel
theorem dX1_become_55 : decode cX1_become 55 = .ok (.bipush 8, 2) := by decide +kernel
theorem dX1_become_57 : decode cX1_become 57 = .ok (.invokestatic 25, 3) := by decide +kernel
theorem dX1_become_60 : decode cX1_become 60 = .ok (.aload_n 0, 1) := by decide +kernel
theorem dX1_become_61 : decode cX1_become 61 = .ok (.aload_n 1, 1) := by decide +kernel
theorem dX1_become_62 : decode cX1_become 62 = .ok (.getfield 31, 3) := by decide +kernel
theorem dX1_become_65 : decode cX1_become 65 = .ok (.putfield 31, 3) := by decide +kernel
theorem dX1_become_68 : decode cX1_become 68 = .ok (.aload_n 0, 1) := by decide +kernel
theorem dX1_become_69 : decode cX1_become 69 = .ok (.aload_n 1, 1) := by decide +kernel
theorem dX1_become_70 : decode cX1_become 70 = .ok (.getfield 35, 3) := by decide +kernel
theorem dX1_become_73 : decode cX1_become 73 = .ok (.putfield 35, 3) := by decide +kernel
theorem dX1_become_76 : decode cX1_become 76 = .ok (.return_, 1) := by decide +kernel
theorem dX1_forget_0 : decode cX1_forget 0 = .ok (.aload_n 0, 1) := by decide +kernel
theorem dX1_forget_1 : decode cX1_forget 1 = .ok (.iconst 0, 1) := by decide +kernel
theorem dX1_forget_2 : decode cX1_forget 2 = .ok (.putfield 35, 3) := by decide +kernel
theorem dX1_forget_5 : decode cX1_forget 5 = .ok (.return_, 1) := by decide +kernel
theorem dX1_keep_0 : decode cX1_keep 0 = .ok (.aload_n 1, 1) := by decide +kernel
theorem dX1_keep_1 : decode cX1_keep 1 = .ok (.getfield 38, 3) := by decide +kernel
theorem dX1_keep_4 : decode cX1_keep 4 = .ok (.iconst 0, 1) := by decide +kernel
theorem dX1_keep_5 : decode cX1_keep 5 = .ok (.aload_n 0, 1) := by decide +kernel
theorem dX1_keep_6 : decode cX1_keep 6 = .ok (.getfield 9, 3) := by decide +kernel
theorem dX1_keep_9 : decode cX1_keep 9 = .ok (.aload_n 0, 1) := by decide +kernel
theorem dX1_keep_10 : decode cX1_keep 10 = .ok (.getfield 31, 3) := by decide +kernel
theorem dX1_keep_13 : decode cX1_keep 13 = .ok (.bipush 6, 2) := by decide +kernel
theorem dX1_keep_15 : decode cX1_keep 15 = .ok (.imul, 1) := by decide +kernel
theorem dX1_keep_16 : decode cX1_keep 16 = .ok (.bipush 6, 2) := by decide +kernel
theorem dX1_keep_18 : decode cX1_keep 18 = .ok (.invokestatic 25, 3) := by decide +kernel
theorem dX1_keep_21 : decode cX1_keep 21 = .ok (.aload_n 1, 1) := by decide +kernel
theorem dX1_keep_22 : decode cX1_keep 22 = .ok (.getfield 41, 3) := by decide +kernel
theorem dX1_keep_25 : decode cX1_keep 25 = .ok (.iconst 0, 1) := by decide +kernel
theorem dX1_keep_26 : decode cX1_keep 26 = .ok (.aload_n 0, 1) := by decide +kernel
theorem dX1_keep_27 : decode cX1_keep 27 = .ok (.getfield 15, 3) := by decide +kernel
theorem dX1_keep_30 : decode cX1_keep 30 = .ok (.aload_n 0, 1) := by decide +kernel
theorem dX1_keep_31 : decode cX1_keep 31 = .ok (.getfield 31, 3) := by decide +kernel
theorem dX1_keep_34 : decode cX1_keep 34 = .ok (.bipush 6, 2) := by decide +kernel
theorem dX1_keep_36 : decode cX1_keep 36 = .ok (.imul, 1) := by decide +kernel
theorem dX1_keep_37 : decode cX1_keep 37 = .ok (.bipush 6, 2) := by decide +kernel
theorem dX1_keep_39 : decode cX1_keep 39 = .ok (.invokestatic 25, 3) := by decide +kernel
theorem dX1_keep_42 : decode cX1_keep 42 = .ok (.aload_n 0, 1) := by decide +kernel
theorem dX1_keep_43 : decode cX1_keep 43 = .ok (.getfield 18, 3) := by decide +kernel
theorem dX1_keep_46 : decode cX1_keep 46 = .ok (.aload_n 0, 1) := by decide +kernel
theorem dX1_keep_47 : decode cX1_keep 47 = .ok (.getfield 31, 3) := by decide +kernel
theorem dX1_keep_50 : decode cX1_keep 50 = .ok (.aload_n 1, 1) := by decide +kernel
theorem dX1_keep_51 : decode cX1_keep 51 = .ok (.getfield 42, 3) := by decide +kernel
theorem dX1_keep_54 : decode cX1_keep 54 = .ok (.iastore, 1) := by decide +kernel
theorem dX1_keep_55 : decode cX1_keep 55 = .ok (.aload_n 0, 1) := by decide +kernel
theorem dX1_keep_56 : decode cX1_keep 56 = .ok (.getfield 22, 3) := by decide +kernel
theorem dX1_keep_59 : decode cX1_keep 59 = .ok (.aload_n 0, 1) := by decide +kernel
theorem dX1_keep_60 : decode cX1_keep 60 = .ok (.getfield 31, 3) := by decide +kernel
theorem dX1_keep_63 : decode cX1_keep 63 = .ok (.aload_n 1, 1) := by decide +kernel
theorem dX1_keep_64 : decode cX1_keep 64 = .ok (.getfield 45, 3) := by decide +kernel
theorem dX1_keep_67 : decode cX1_keep 67 = .ok (.iastore, 1) := by decide +kernel
theorem dX1_keep_68 : decode cX1_keep 68 = .ok (.aload_n 0, 1) := by decide +kernel
theorem dX1_keep_69 : decode cX1_keep 69 = .ok (.aload_n 0, 1) := by decide +kernel
theorem dX1_keep_70 : decode cX1_keep 70 = .ok (.getfield 31, 3) := by decide +kernel
theorem dX1_keep_73 : decode cX1_keep 73 = .ok (.iconst 1, 1) := by decide +kernel
theorem dX1_keep_74 : decode cX1_keep 74 = .ok (.iadd, 1) := by decide +kernel
theorem dX1_keep_75 : decode cX1_keep 75 = .ok (.bipush 8, 2) := by decide +kernel
theorem dX1_keep_77 : decode cX1_keep 77 = .ok (.irem, 1) := by decide +kernel
theorem dX1_keep_78 : decode cX1_keep 78 = .ok (.putfield 31, 3) := by decide +kernel
theorem dX1_keep_81 : decode cX1_keep 81 = .ok (.aload_n 0, 1) := by decide +kernel
theorem dX1_keep_82 : decode cX1_keep 82 = .ok (.aload_n 0, 1) := by decide +kernel
theorem dX1_keep_83 : decode cX1_keep 83 = .ok (.getfield 35, 3) := by decide +kernel
theorem dX1_keep_86 : decode cX1_keep 86 = .ok (.iconst 1, 1) := by decide +kernel
theorem dX1_keep_87 : decode cX1_keep 87 = .ok (.iadd, 1) := by decide +kernel
theorem dX1_keep_88 : decode cX1_keep 88 = .ok (.bipush 8, 2) := by decide +kernel
theorem dX1_keep_90 : decode cX1_keep 90 = .ok (.invokestatic 48, 3) := by decide +kernel
theorem dX1_keep_93 : decode cX1_keep 93 = .ok (.putfield 35, 3) := by decide +kernel
theorem dX1_keep_96 : decode cX1_keep 96 = .ok (.return_, 1) := by decide +kernel
theorem dX1_takeBack_0 : decode cX1_takeBack 0 = .ok (.aload_n 0, 1) := by decide +kernel
theorem dX1_takeBack_1 : decode cX1_takeBack 1 = .ok (.aload_n 0, 1) := by decide +kernel
theorem dX1_takeBack_2 : decode cX1_takeBack 2 = .ok (.getfield 31, 3) := by decide +kernel
theorem dX1_takeBack_5 : decode cX1_takeBack 5 = .ok (.bipush 8, 2) := by decide +kernel
theorem dX1_takeBack_7 : decode cX1_takeBack 7 = .ok (.iadd, 1) := by decide +kernel
theorem dX1_takeBack_8 : decode cX1_takeBack 8 = .ok (.iconst 1, 1) := by decide +kernel
theorem dX1_takeBack_9 : decode cX1_takeBack 9 = .ok (.isub, 1) := by decide +kernel
theorem dX1_takeBack_10 : decode cX1_takeBack 10 = .ok (.bipush 8, 2) := by decide +kernel
theorem dX1_takeBack_12 : decode cX1_takeBack 12 = .ok (.irem, 1) := by decide +kernel
theorem dX1_takeBack_13 : decode cX1_takeBack 13 = .ok (.putfield 31, 3) := by decide +kernel
theorem dX1_takeBack_16 : decode cX1_takeBack 16 = .ok (.aload_n 0, 1) := by decide +kernel
theorem dX1_takeBack_17 : decode cX1_takeBack 17 = .ok (.dup, 1) := by decide +kernel
theorem dX1_takeBack_18 : decode cX1_takeBack 18 = .ok (.getfield 35, 3) := by decide +kernel
theorem dX1_takeBack_21 : decode cX1_takeBack 21 = .ok (.iconst 1, 1) := by decide +kernel
theorem dX1_takeBack_22 : decode cX1_takeBack 22 = .ok (.isub, 1) := by decide +kernel
theorem dX1_takeBack_23 : decode cX1_takeBack 23 = .ok (.putfield 35, 3) := by decide +kernel
theorem dX1_takeBack_26 : decode cX1_takeBack 26 = .ok (.aload_n 0, 1) := by decide +kernel
theorem dX1_takeBack_27 : decode cX1_takeBack 27 = .ok (.getfield 9, 3) := by decide +kernel
theorem dX1_takeBack_30 : decode cX1_takeBack 30 = .ok (.aload_n 0, 1) := by decide +kernel
theorem dX1_takeBack_31 : decode cX1_takeBack 31 = .ok (.getfield 31, 3) := by decide +kernel
theorem dX1_takeBack_34 : decode cX1_takeBack 34 = .ok (.bipush 6, 2) := by decide +kernel
theorem dX1_takeBack_36 : decode cX1_takeBack 36 = .ok (.imul, 1) := by decide +kernel
theorem dX1_takeBack_37 : decode cX1_takeBack 37 = .ok (.aload_n 1, 1) := by decide +kernel
theorem dX1_takeBack_38 : decode cX1_takeBack 38 = .ok (.getfield 38, 3) := by decide +kernel
theorem dX1_takeBack_41 : decode cX1_takeBack 41 = .ok (.iconst 0, 1) := by decide +kernel
theorem dX1_takeBack_42 : decode cX1_takeBack 42 = .ok (.bipush 6, 2) := by decide +kernel
theorem dX1_takeBack_44 : decode cX1_takeBack 44 = .ok (.invokestatic 25, 3) := by decide +kernel
theorem dX1_takeBack_47 : decode cX1_takeBack 47 = .ok (.aload_n 0, 1) := by decide +kernel
theorem dX1_takeBack_48 : decode cX1_takeBack 48 = .ok (.getfield 15, 3) := by decide +kernel
theorem dX1_takeBack_51 : decode cX1_takeBack 51 = .ok (.aload_n 0, 1) := by decide +kernel
theorem dX1_takeBack_52 : decode cX1_takeBack 52 = .ok (.getfield 31, 3) := by decide +kernel
theorem dX1_takeBack_55 : decode cX1_takeBack 55 = .ok (.bipush 6, 2) := by decide +kernel
theorem dX1_takeBack_57 : decode cX1_takeBack 57 = .ok (.imul, 1) := by decide +kernel
theorem dX1_takeBack_58 : decode cX1_takeBack 58 = .ok (.aload_n 1, 1) := by decide +kernel
theorem dX1_takeBack_59 : decode cX1_takeBack 59 = .ok (.getfield 41, 3) := by decide +kernel
theorem dX1_takeBack_62 : decode cX1_takeBack 62 = .ok (.iconst 0, 1) := by decide +kernel
theorem dX1_takeBack_63 : decode cX1_takeBack 63 = .ok (.bipush 6, 2) := by decide +kernel
theorem dX1_takeBack_65 : decode cX1_takeBack 65 = .ok (.invokestatic 25, 3) := by decide +kernel
theorem dX1_takeBack_68 : decode cX1_takeBack 68 = .ok (.aload_n 1, 1) := by decide +kernel
theorem dX1_takeBack_69 : decode cX1_takeBack 69 = .ok (.aload_n 0, 1) := by decide +kernel
theorem dX1_takeBack_70 : decode cX1_takeBack 70 = .ok (.getfield 18, 3) := by decide +kernel
theorem dX1_takeBack_73 : decode cX1_takeBack 73 = .ok (.aload_n 0, 1) := by decide +kernel
theorem dX1_takeBack_74 : decode cX1_takeBack 74 = .ok (.getfield 31, 3) := by decide +kernel
theorem dX1_takeBack_77 : decode cX1_takeBack 77 = .ok (.iaload, 1) := by decide +kernel
theorem dX1_takeBack_78 : decode cX1_takeBack 78 = .ok (.putfield 42, 3) := by decide +kernel
theorem dX1_takeBack_81 : decode cX1_takeBack 81 = .ok (.aload_n 1, 1) := by decide +kernel
theorem dX1_takeBack_82 : decode cX1_takeBack 82 = .ok (.aload_n 0, 1) := by decide +kernel
theorem dX1_takeBack_83 : decode cX1_takeBack 83 = .ok (.getfield 22, 3) := by decide +kernel
theorem dX1_takeBack_86 : decode cX1_takeBack 86 = .ok (.aload_n 0, 1) := by decide +kernel
theorem dX1_takeBack_87 : decode cX1_takeBack 87 = .ok (.getfield 31, 3) := by decide +kernel
theorem dX1_takeBack_90 : decode cX1_takeBack 90 = .ok (.iaload, 1) := by decide +kernel
theorem dX1_takeBack_91 : decode cX1_takeBack 91 = .ok (.putfield 45, 3) := by decide +kernel
theorem dX1_takeBack_94 : decode cX1_takeBack 94 = .ok (.return_, 1) := by decide +kernel
theorem dX2_init_0 : decode cX2_init 0 = .ok (.aload_n 0, 1) := by decide +kernel
theorem dX2_init_1 : decode cX2_init 1 = .ok (.invokespecial 3, 3) := by decide +kernel
theorem dX2_init_4 : decode cX2_init 4 = .ok (.aload_n 0, 1) := by decide +kernel
theorem dX2_init_5 : decode cX2_init 5 = .ok (.bipush 24, 2) := by decide +kernel
theorem dX2_init_7 : decode cX2_init 7 = .ok (.newarray .long, 2) := by decide +kernel
theorem dX2_init_9 : decode cX2_init 9 = .ok (.putfield 9, 3) := by decide +kernel
theorem dX2_init_12 : decode cX2_init 12 = .ok (.aload_n 0, 1) := by decide +kernel
theorem dX2_init_13 : decode cX2_init 13 = .ok (.iconst (-1), 1) := by decide +kernel
theorem dX2_init_14 : decode cX2_init 14 = .ok (.putfield 15, 3) := by decide +kernel
theorem dX2_init_17 : decode cX2_init 17 = .ok (.return_, 1) := by decide +kernel
theorem dX2_isMissing_0 : decode cX2_isMissing 0 = .ok (.aload_n 0, 1) := by decide +kernel
theorem dX2_isMissing_1 : decode cX2_isMissing 1 = .ok (.getfield 15, 3) := by decide +kernel
theorem dX2_isMissing_4 : decode cX2_isMissing 4 = .ok (.iconst (-1), 1) := by decide +kernel
theorem dX2_isMissing_5 : decode cX2_isMissing 5 = .ok (.if_icmp .ne 7, 3) := by decide +kernel
theorem dX2_isMissing_8 : decode cX2_isMissing 8 = .ok (.iconst 1, 1) := by decide +kernel
theorem dX2_isMissing_9 : decode cX2_isMissing 9 = .ok (.goto 4, 3) := by decide +kernel
theorem dX2_isMissing_12 : decode cX2_isMissing 12 = .ok (.iconst 0, 1) := by decide +kernel
theorem dX2_isMissing_13 : decode cX2_isMissing 13 = .ok (.ireturn, 1) := by decide +kernel
set_option maxRecDepth 20000 in
theorem ggX2_begin_J7_fill_d0a16 : GoodIn wsX2_begin wsJ7_fill_d0a16 := goodIn_r _ [7] (by decide +kernel) (by decide +kernel)
set_option maxRecDepth 20000 in
theorem gX2_begin_J7_fill_d0a16 : GoodIn wsX2_begin (va_wsS RX2 19 yJ7_fill_d0a16 wsJ7_fill_d0a16) := goodIn_app (goodIn_of _ (by decide +kernel)) ggX2_begin_J7_fill_d0a16
theorem dX2_begin_0 : decode cX2_begin 0 = .ok (.aload_n 0, 1) := by decide +kernel
theorem dX2_begin_1 : decode cX2_begin 1 = .ok (.getfield 9, 3) := by decide +kernel
theorem dX2_begin_4 : decode cX2_begin 4 = .ok (.lconst 0, 1) := by decide +kernel
theorem dX2_begin_5 : decode cX2_begin 5 = .ok (.invokestatic 19, 3) := by decide +kernel
theorem dX2_begin_8 : decode cX2_begin 8 = .ok (.aload_n 0, 1) := by decide +kernel
theorem dX2_begin_9 : decode cX2_begin 9 = .ok (.iload_n 1, 1) := by decide +kernel
theorem dX2_begin_10 : decode cX2_begin 10 = .ok (.putfield 15, 3) := by decide +kernel
theorem dX2_begin_13 : decode cX2_begin 13 = .ok (.aload_n 0, 1) := by decide +kernel
theorem dX2_begin_14 : decode cX2_begin 14 = .ok (.iload_n 2, 1) := by decide +kernel
theorem dX2_begin_15 : decode cX2_begin 15 = .ok (.putfield 25, 3) := by decide +kernel
theorem dX2_begin_18 : decode cX2_begin 18 = .ok (.return_, 1) := by decide +kernel
theorem dX2_lose_0 : decode cX2_lose 0 = .ok (.aload_n 0, 1) := by decide +kernel
theorem dX2_lose_1 : decode cX2_lose 1 = .ok (.iconst (-1), 1) := by decide +kernel
theorem dX2_lose_2 : decode cX2_lose 2 = .ok (.putfield 15, 3) := by decide +kernel
theorem dX2_lose_5 : decode cX2_lose 5 = .ok (.aload_n 0, 1) := by decide +kernel
theorem dX2_lose_6 : decode cX2_lose 6 = .ok (.iconst 0, 1) := by decide +kernel
theorem dX2_lose_7 : decode cX2_lose 7 = .ok (.putfield 25, 3) := by decide +kernel
theorem dX2_lose_10 : decode cX2_lose 10 = .ok (.return_, 1) := by decide +kernel
theorem dX2_holds_0 : decode cX2_holds 0 = .ok (.iload_n 1, 1) := by decide +kernel
theorem dX2_holds_1 : decode cX2_holds 1 = .ok (.ifCond .lt 21, 3) := by decide +kernel
theorem dX2_holds_4 : decode cX2_holds 4 = .ok (.iload_n 2, 1) := by decide +kernel
theorem dX2_holds_5 : decode cX2_holds 5 = .ok (.ifCond .lt 17, 3) := by decide +kernel
theorem dX2_holds_8 : decode cX2_holds 8 = .ok (.iload_n 1, 1) := by decide +kernel
theorem dX2_holds_9 : decode cX2_holds 9 = .ok (.aload_n 0, 1) := by decide +kernel
theorem dX2_holds_10 : decode cX2_holds 10 = .ok (.getfield 25, 3) := by decide +kernel
theorem dX2_holds_13 : decode cX2_holds 13 = .ok (.iload_n 2, 1) := by decide +kernel
theorem dX2_holds_14 : decode cX2_holds 14 = .ok (.isub, 1) := by decide +kernel
theorem dX2_holds_15 : decode cX2_holds 15 = .ok (.if_icmp .gt 7, 3) := by decide +kernel
theorem dX2_holds_18 : decode cX2_holds 18 = .ok (.iconst 1, 1) := by decide +kernel
theorem dX2_holds_19 : decode cX2_holds 19 = .ok (.goto 4, 3) := by decide +kernel
theorem dX2_holds_22 : decode cX2_holds 22 = .ok (.iconst 0, 1) := by decide +kernel
theorem dX2_holds_23 : decode cX2_holds 23 = .ok (.ireturn, 1) := by decide +kernel
set_option maxRecDepth 20000 in
theorem ggX2_refusal_X2_isMissing : GoodIn wsX2_refusal wsX2_isMissing := goodIn_r _ [6, 1, 12, 13, 14] (by decide +kernel) (by decide +kernel)
set_option maxRecDepth 20000 in
theorem gX2_refusal_X2_isMissing : GoodIn wsX2_refusal (wsV RX2 28 RX2 yX2_isMissing wsX2_isMissing) := goodIn_app (goodIn_of _ (by decide +kernel)) ggX2_refusal_X2_isMissing
set_option maxRecDepth 20000 in
theorem ggX2_refusal_X2_holds : GoodIn wsX2_refusal wsX2_holds := goodIn_r _ [10, 11, 12, 13, 14] (by decide +kernel) (by decide +kernel)
set_option maxRecDepth 20000 in
theorem gX2_refusal_X2_holds : GoodIn wsX2_refusal (wsV RX2 32 RX2 yX2_holds wsX2_holds) := goodIn_app (goodIn_of _ (by decide +kernel)) ggX2_refusal_X2_holds
theorem dX2_refusal_0 : decode cX2_refusal 0 = .ok (.aload_n 0, 1) := by decide +kernel
theorem dX2_refusal_1 : decode cX2_refusal 1 = .ok (.invokevirtual 28, 3) := by decide +kernel
theorem dX2_refusal_4 : decode cX2_refusal 4 = .ok (.ifCond .eq 6, 3) := by decide +kernel
theorem dX2_refusal_7 : decode cX2_refusal 7 = .ok (.bipush (-11), 2) := by decide +kernel
theorem dX2_refusal_9 : decode cX2_refusal 9 = .ok (.ireturn, 1) := by decide +kernel
theorem dX2_refusal_10 : decode cX2_refusal 10 = .ok (.aload_n 0, 1) := by decide +kernel
theorem dX2_refusal_11 : decode cX2_refusal 11 = .ok (.getfield 15, 3) := by decide +kernel
theorem dX2_refusal_14 : decode cX2_refusal 14 = .ok (.iload_n 1, 1) := by decide +kernel
theorem dX2_refusal_15 : decode cX2_refusal 15 = .ok (.if_icmp .eq 6, 3) := by decide +kernel
theorem dX2_refusal_18 : decode cX2_refusal 18 = .ok (.bipush (-12), 2) := by decide +kernel
theorem dX2_refusal_20 : decode cX2_refusal 20 = .ok (.ireturn, 1) := by decide +kernel
theorem dX2_refusal_21 : decode cX2_refusal 21 = .ok (.aload_n 0, 1) := by decide +kernel
theorem dX2_refusal_22 : decode cX2_refusal 22 = .ok (.iload_n 2, 1) := by decide +kernel
theorem dX2_refusal_23 : decode cX2_refusal 23 = .ok (.iload_n 3, 1) := by decide +kernel
theorem dX2_refusal_24 : decode cX2_refusal 24 = .ok (.invokevirtual 32, 3) := by decide +kernel
theorem dX2_refusal_27 : decode cX2_refusal 27 = .ok (.ifCond .eq 7, 3) := by decide +kernel
theorem dX2_refusal_30 : decode cX2_refusal 30 = .ok (.iconst 0, 1) := by decide +kernel
theorem dX2_refusal_31 : decode cX2_refusal 31 = .ok (.goto 5, 3) := by decide +kernel
theorem dX2_refusal_34 : decode cX2_refusal 34 = .ok (.bipush (-13), 2) := by decide +kernel
theorem dX2_refusal_36 : decode cX2_refusal 36 = .ok (.ireturn, 1) := by decide +kernel
theorem dX2_put_0 : decode cX2_put 0 = .ok (.aload_n 0, 1) := by decide +kernel
theorem dX2_put_1 : decode cX2_put 1 = .ok (.getfield 15, 3) := by decide +kernel
theorem dX2_put_4 : decode cX2_put 4 = .ok (.tableswitch 66 0 2 #[28, 41, 54], 28) := by decide +kernel
theorem dX2_put_32 : decode cX2_put 32 = .ok (.aload_n 0, 1) := by decide +kernel
theorem dX2_put_33 : decode cX2_put 33 = .ok (.getfield 9, 3) := by decide +kernel
theorem dX2_put_36 : decode cX2_put 36 = .ok (.iload_n 1, 1) := by decide +kernel
theorem dX2_put_37 : decode cX2_put 37 = .ok (.lload_n 2, 1) := by decide +kernel
theorem dX2_put_38 : decode cX2_put 38 = .ok (.l2i, 1) := by decide +kernel
theorem dX2_put_39 : decode cX2_put 39 = .ok (.i2b, 1) := by decide +kernel
theorem dX2_put_40 : decode cX2_put 40 = .ok (.i2l, 1) := by decide +kernel
theorem dX2_put_41 : decode cX2_put 41 = .ok (.lastore, 1) := by decide +kernel
theorem dX2_put_42 : decode cX2_put 42 = .ok (.goto 35, 3) := by decide +kernel
theorem dX2_put_45 : decode cX2_put 45 = .ok (.aload_n 0, 1) := by decide +kernel
theorem dX2_put_46 : decode cX2_put 46 = .ok (.getfield 9, 3) := by decide +kernel
theorem dX2_put_49 : decode cX2_put 49 = .ok (.iload_n 1, 1) := by decide +kernel
theorem dX2_put_50 : decode cX2_put 50 = .ok (.lload_n 2, 1) := by decide +kernel
theorem dX2_put_51 : decode cX2_put 51 = .ok (.l2i, 1) := by decide +kernel
theorem dX2_put_52 : decode cX2_put 52 = .ok (.i2s, 1) := by decide +kernel
theorem dX2_put_53 : decode cX2_put 53 = .ok (.i2l, 1) := by decide +kernel
theorem dX2_put_54 : decode cX2_put 54 = .ok (.lastore, 1) := by decide +kernel
theorem dX2_put_55 : decode cX2_put 55 = .ok (.goto 22, 3) := by decide +kernel
theorem dX2_put_58 : decode cX2_put 58 = .ok (.aload_n 0, 1) := by decide +kernel
theorem dX2_put_59 : decode cX2_put 59 = .ok (.getfield 9, 3) := by decide +kernel
theorem dX2_put_62 : decode cX2_put 62 = .ok (.iload_n 1, 1) := by decide +kernel
theorem dX2_put_63 : decode cX2_put 63 = .ok (.lload_n 2, 1) := by decide +kernel
theorem dX2_put_64 : decode cX2_put 64 = .ok (.l2i, 1) := by decide +kernel
theorem dX2_put_65 : decode cX2_put 65 = .ok (.i2l, 1) := by decide +kernel
theorem dX2_put_66 : decode cX2_put 66 = .ok (.lastore, 1) := by decide +kernel
theorem dX2_put_67 : decode cX2_put 67 = .ok (.goto 10, 3) := by decide +kernel
theorem dX2_put_70 : decode cX2_put 70 = .ok (.aload_n 0, 1) := by decide +kernel
theorem dX2_put_71 : decode cX2_put 71 = .ok (.getfield 9, 3) := by decide +kernel
theorem dX2_put_74 : decode cX2_put 74 = .ok (.iload_n 1, 1) := by decide +kernel
theorem dX2_put_75 : decode cX2_put 75 = .ok (.lload_n 2, 1) := by decide +kernel
theorem dX2_put_76 : decode cX2_put 76 = .ok (.lastore, 1) := by decide +kernel
theorem dX2_put_77 : decode cX2_put 77 = .ok (.return_, 1) := by decide +kernel
theorem dX3_init_0 : decode cX3_init 0 = .ok (.aload_n 0, 1) := by decide +kernel
theorem dX3_init_1 : decode cX3_init 1 = .ok (.invokespecial 3, 3) := by decide +kernel
theorem dX3_init_4 : decode cX3_init 4 = .ok (.aload_n 0, 1) := by decide +kernel
theorem dX3_init_5 : decode cX3_init 5 = .ok (.bipush 70, 2) := by decide +kernel
theorem dX3_init_7 : decode cX3_init 7 = .ok (.newarray .int, 2) := by decide +kernel
theorem dX3_init_9 : decode cX3_init 9 = .ok (.putfield 9, 3) := by decide +kernel
theorem dX3_init_12 : decode cX3_init 12 = .ok (.return_, 1) := by decide +kernel
theorem dX3_append_0 : decode cX3_append 0 = .ok (.aload_n 0, 1) := by decide +kernel
theorem dX3_append_1 : decode cX3_append 1 = .ok (.getfield 9, 3) := by decide +kernel
theorem dX3_append_4 : decode cX3_append 4 = .ok (.aload_n 0, 1) := by decide +kernel
theorem dX3_append_5 : decode cX3_append 5 = .ok (.getfield 15, 3) := by decide +kernel
theorem dX3_append_8 : decode cX3_append 8 = .ok (.iload_n 1, 1) := by decide +kernel
theorem dX3_append_9 : decode cX3_append 9 = .ok (.iastore, 1) := by decide +kernel
theorem dX3_append_10 : decode cX3_append 10 = .ok (.aload_n 0, 1) := by decide +kernel
theorem dX3_append_11 : decode cX3_append 11 = .ok (.dup, 1) := by decide +kernel
theorem dX3_append_12 : decode cX3_append 12 = .ok (.getfield 15, 3) := by decide +kernel
theorem dX3_append_15 : decode cX3_append 15 = .ok (.iconst 1, 1) := by decide +kernel
theorem dX3_append_16 : decode cX3_append 16 = .ok (.iadd, 1) := by decide +kernel
theorem dX3_append_17 : decode cX3_append 17 = .ok (.putfield 15, 3) := by decide +kernel
theorem dX3_append_20 : decode cX3_append 20 = .ok (.aload_n 0, 1) := by decide +kernel
theorem dX3_append_21 : decode cX3_append 21 = .ok (.getfield 15, 3) := by decide +kernel
theorem dX3_append_24 : decode cX3_append 24 = .ok (.ireturn, 1) := by decide +kernel
set_option maxRecDepth 20000 in
theorem ggX3_readCourt_X0_empty : GoodIn wsX3_readCourt wsX0_empty := goodIn_r _ [5, 6, 7, 145, 146, 147, 148, 149, 150, 151, 152, 153, 154] (by decide +kernel) (by decide +kernel)
set_option maxRecDepth 20000 in
theorem gX3_readCourt_X0_empty_n22 : GoodIn wsX3_readCourt (wsX0_empty) := ggX3_readCourt_X0_empty
set_option maxRecDepth 20000 in
theorem ggX3_readCourt_X3_readRules : GoodIn wsX3_readCourt wsX3_readRules := goodIn_r _ [12, 1, 13, 14, 15, 11, 16, 17, 18, 19, 20, 21, 22, 23, 24, 25, 26, 27, 28, 29, 30, 31, 32, 33, 145, 146, 147, 148, 149, 150, 151, 152, 153, 154, 142, 143, 144] (by decide +kernel) (by decide +kernel)
set_option maxRecDepth 20000 in
theorem gX3_readCourt_X3_readRules : GoodIn wsX3_readCourt (wsV RX3 27 RX3 yX3_readRules wsX3_readRules) := goodIn_app (goodIn_of _ (by decide +kernel)) ggX3_readCourt_X3_readRules
set_option maxRecDepth 20000 in
theorem ggX3_readCourt_X3_readPersons : GoodIn wsX3_readCourt wsX3_readPersons := goodIn_r _ [37, 1, 13, 14, 15, 11, 16, 17, 18, 38, 39, 40, 41, 42, 43, 44, 45, 46, 47, 48, 49, 50, 51, 52, 53, 54, 55, 56, 57, 58, 59, 60, 61, 62, 63, 64, 65, 66, 31, 32, 33, 67, 68, 69, 70, 71, 72, 73, 74, 75, 76, 77, 78, 79, 80, 81, 82, 83, 84, 85, 86, 87, 88, 89, 90, 91, 92, 93, 94, 95, 96, 97, 98, 99, 100, 101, 102, 103, 104, 105, 106, 107, 108, 109, 110, 111, 112, 113, 114, 115, 116, 117, 118, 119, 120, 121, 122, 123, 19, 20, 21, 22, 23, 24, 25, 124, 3, 125, 126, 6, 127, 128, 129, 130, 131, 132, 133, 134, 135, 136, 137, 138, 139, 140, 141, 142, 143, 144, 145, 146, 147, 148, 149, 150, 151, 152, 153, 154] (by decide +kernel) (by decide +kernel)
set_option maxRecDepth 20000 in
theorem gX3_readCourt_X3_readPersons : GoodIn wsX3_readCourt (wsV RX3 31 RX3 yX3_readPersons wsX3_readPersons) := goodIn_app (goodIn_of _ (by decide +kernel)) ggX3_readCourt_X3_readPersons
theorem dX3_readCourt_0 : decode cX3_readCourt 0 = .ok (.aload_n 0, 1) := by decide +kernel
theorem dX3_readCourt_1 : decode cX3_readCourt 1 = .ok (.iconst 0, 1) := by decide +kernel
theorem dX3_readCourt_2 : decode cX3_readCourt 2 = .ok (.putfield 19, 3) := by decide +kernel
theorem dX3_readCourt_5 : decode cX3_readCourt 5 = .ok (.aload_n 1, 1) := by decide +kernel
theorem dX3_readCourt_6 : decode cX3_readCourt 6 = .ok (.invokevirtual 22, 3) := by decide +kernel
theorem dX3_readCourt_9 : decode cX3_readCourt 9 = .ok (.aload_n 0, 1) := by decide +kernel
theorem dX3_readCourt_10 : decode cX3_readCourt 10 = .ok (.aload_n 1, 1) := by decide +kernel
theorem dX3_readCourt_11 : decode cX3_readCourt 11 = .ok (.invokevirtual 27, 3) := by decide +kernel
theorem dX3_readCourt_14 : decode cX3_readCourt 14 = .ok (.istore_n 2, 1) := by decide +kernel
theorem dX3_readCourt_15 : decode cX3_readCourt 15 = .ok (.iload_n 2, 1) := by decide +kernel
theorem dX3_readCourt_16 : decode cX3_readCourt 16 = .ok (.ifCond .eq 7, 3) := by decide +kernel
theorem dX3_readCourt_19 : decode cX3_readCourt 19 = .ok (.iload_n 2, 1) := by decide +kernel
theorem dX3_readCourt_20 : decode cX3_readCourt 20 = .ok (.goto 8, 3) := by decide +kernel
theorem dX3_readCourt_23 : decode cX3_readCourt 23 = .ok (.aload_n 0, 1) := by decide +kernel
theorem dX3_readCourt_24 : decode cX3_readCourt 24 = .ok (.aload_n 1, 1) := by decide +kernel
theorem dX3_readCourt_25 : decode cX3_readCourt 25 = .ok (.invokevirtual 31, 3) := by decide +kernel
theorem dX3_readCourt_28 : decode cX3_readCourt 28 = .ok (.ireturn, 1) := by decide +kernel
set_option maxRecDepth 20000 in
theorem ggX3_readRules_X3_peek : GoodIn wsX3_readRules wsX3_peek := goodIn_r _ [6, 1, 7, 8, 34, 35, 36] (by decide +kernel) (by decide +kernel)
set_option maxRecDepth 20000 in
theorem gX3_readRules_X3_peek : GoodIn wsX3_readRules (wsV RX3 34 RX3 yX3_peek wsX3_peek) := goodIn_app (goodIn_of _ (by decide +kernel)) ggX3_readRules_X3_peek
set_option maxRecDepth 20000 in
theorem ggX3_readRules_X4_within : GoodIn wsX3_readRules wsX4_within := goodIn_r _ [11] (by decide +kernel) (by decide +kernel)
set_option maxRecDepth 20000 in
theorem gX3_readRules_X4_within_n41 : GoodIn wsX3_readRules (wsX4_within) := ggX3_readRules_X4_within
set_option maxRecDepth 20000 in
theorem ggX3_readRules_X3_faultHere : GoodIn wsX3_readRules wsX3_faultHere := goodIn_r _ [15, 1, 34, 35, 36] (by decide +kernel) (by decide +kernel)
set_option maxRecDepth 20000 in
theorem gX3_readRules_X3_faultHere : GoodIn wsX3_readRules (wsV RX3 45 RX3 yX3_faultHere wsX3_faultHere) := goodIn_app (goodIn_of _ (by decide +kernel)) ggX3_readRules_X3_faultHere
set_option maxRecDepth 20000 in
theorem ggX3_readRules_X3_readNumber : GoodIn wsX3_readRules wsX3_readNumber := goodIn_r _ [19, 1, 7, 8, 20, 21, 22, 23, 9, 10, 11, 34, 35, 36] (by decide +kernel) (by decide +kernel)
set_option maxRecDepth 20000 in
theorem gX3_readRules_X3_readNumber : GoodIn wsX3_readRules (wsV RX3 48 RX3 yX3_readNumber wsX3_readNumber) := goodIn_app (goodIn_of _ (by decide +kernel)) ggX3_readRules_X3_readNumber
theorem dX3_readRules_0 : decode cX3_readRules 0 = .ok (.aload_n 1, 1) := by decide +kernel
theorem dX3_readRules_1 : decode cX3_readRules 1 = .ok (.aload_n 0, 1) := by decide +kernel
theorem dX3_readRules_2 : decode cX3_readRules 2 = .ok (.invokevirtual 34, 3) := by decide +kernel
theorem dX3_readRules_5 : decode cX3_readRules 5 = .ok (.bipush 48, 2) := by decide +kernel
theorem dX3_readRules_7 : decode cX3_readRules 7 = .ok (.isub, 1) := by decide +kernel
theorem dX3_readRules_8 : decode cX3_readRules 8 = .ok (.putfield 38, 3) := by decide +kernel
theorem dX3_readRules_11 : decode cX3_readRules 11 = .ok (.aload_n 1, 1) := by decide +kernel
theorem dX3_readRules_12 : decode cX3_readRules 12 = .ok (.getfield 38, 3) := by decide +kernel
theorem dX3_readRules_15 : decode cX3_readRules 15 = .ok (.iconst 1, 1) := by decide +kernel
theorem dX3_readRules_16 : decode cX3_readRules 16 = .ok (.bipush 9, 2) := by decide +kernel
theorem dX3_readRules_18 : decode cX3_readRules 18 = .ok (.invokestatic 41, 3) := by decide +kernel
theorem dX3_readRules_21 : decode cX3_readRules 21 = .ok (.ifCond .ne 8, 3) := by decide +kernel
theorem dX3_readRules_24 : decode cX3_readRules 24 = .ok (.aload_n 0, 1) := by decide +kernel
theorem dX3_readRules_25 : decode cX3_readRules 25 = .ok (.invokevirtual 45, 3) := by decide +kernel
theorem dX3_readRules_28 : decode cX3_readRules 28 = .ok (.ireturn, 1) := by decide +kernel
theorem dX3_readRules_29 : decode cX3_readRules 29 = .ok (.aload_n 0, 1) := by decide +kernel
theorem dX3_readRules_30 : decode cX3_readRules 30 = .ok (.dup, 1) := by decide +kernel
theorem dX3_readRules_31 : decode cX3_readRules 31 = .ok (.getfield 19, 3) := by decide +kernel
theorem dX3_readRules_34 : decode cX3_readRules 34 = .ok (.iconst 1, 1) := by decide +kernel
theorem dX3_readRules_35 : decode cX3_readRules 35 = .ok (.iadd, 1) := by decide +kernel
theorem dX3_readRules_36 : decode cX3_readRules 36 = .ok (.putfield 19, 3) := by decide +kernel
theorem dX3_readRules_39 : decode cX3_readRules 39 = .ok (.aload_n 0, 1) := by decide +kernel
theorem dX3_readRules_40 : decode cX3_readRules 40 = .ok (.invokevirtual 34, 3) := by decide +kernel
theorem dX3_readRules_43 : decode cX3_readRules 43 = .ok (.bipush 47, 2) := by decide +kernel
theorem dX3_readRules_45 : decode cX3_readRules 45 = .ok (.if_icmp .eq 8, 3) := by decide +kernel
theorem dX3_readRules_48 : decode cX3_readRules 48 = .ok (.aload_n 0, 1) := by decide +kernel
theorem dX3_readRules_49 : decode cX3_readRules 49 = .ok (.invokevirtual 45, 3) := by decide +kernel
theorem dX3_readRules_52 : decode cX3_readRules 52 = .ok (.ireturn, 1) := by decide +kernel
theorem dX3_readRules_53 : decode cX3_readRules 53 = .ok (.aload_n 0, 1) := by decide +kernel
theorem dX3_readRules_54 : decode cX3_readRules 54 = .ok (.dup, 1) := by decide +kernel
theorem dX3_readRules_55 : decode cX3_readRules 55 = .ok (.getfield 19, 3) := by decide +kernel
theorem dX3_readRules_58 : decode cX3_readRules 58 = .ok (.iconst 1, 1) := by decide +kernel
theorem dX3_readRules_59 : decode cX3_readRules 59 = .ok (.iadd, 1) := by decide +kernel
theorem dX3_readRules_60 : decode cX3_readRules 60 = .ok (.putfield 19, 3) := by decide +kernel
theorem dX3_readRules_63 : decode cX3_readRules 63 = .ok (.aload_n 0, 1) := by decide +kernel
theorem dX3_readRules_64 : decode cX3_readRules 64 = .ok (.invokevirtual 34, 3) := by decide +kernel
theorem dX3_readRules_67 : decode cX3_readRules 67 = .ok (.pop, 1) := by decide +kernel
theorem dX3_readRules_68 : decode cX3_readRules 68 = .ok (.aload_n 0, 1) := by decide +kernel
theorem dX3_readRules_69 : decode cX3_readRules 69 = .ok (.invokevirtual 45, 3) := by decide +kernel
theorem dX3_readRules_72 : decode cX3_readRules 72 = .ok (.istore_n 2, 1) := by decide +kernel
theorem dX3_readRules_73 : decode cX3_readRules 73 = .ok (.aload_n 1, 1) := by decide +kernel
theorem dX3_readRules_74 : decode cX3_readRules 74 = .ok (.aload_n 0, 1) := by decide +kernel
theorem dX3_readRules_75 : decode cX3_readRules 75 = .ok (.invokevirtual 48, 3) := by decide +kernel
theorem dX3_readRules_78 : decode cX3_readRules 78 = .ok (.putfield 51, 3) := by decide +kernel
theorem dX3_readRules_81 : decode cX3_readRules 81 = .ok (.aload_n 1, 1) := by decide +kernel
theorem dX3_readRules_82 : decode cX3_readRules 82 = .ok (.getfield 51, 3) := by decide +kernel
theorem dX3_readRules_85 : decode cX3_readRules 85 = .ok (.iconst 2, 1) := by decide +kernel
theorem dX3_readRules_86 : decode cX3_readRules 86 = .ok (.bipush 30, 2) := by decide +kernel
theorem dX3_readRules_88 : decode cX3_readRules 88 = .ok (.invokestatic 41, 3) := by decide +kernel
theorem dX3_readRules_91 : decode cX3_readRules 91 = .ok (.ifCond .ne 5, 3) := by decide +kernel
theorem dX3_readRules_94 : decode cX3_readRules 94 = .ok (.iload_n 2, 1) := by decide +kernel
theorem dX3_readRules_95 : decode cX3_readRules 95 = .ok (.ireturn, 1) := by decide +kernel
theorem dX3_readRules_96 : decode cX3_readRules 96 = .ok (.aload_n 0, 1) := by decide +kernel
theorem dX3_readRules_97 : decode cX3_readRules 97 = .ok (.invokevirtual 34, 3) := by decide +kernel
theorem dX3_readRules_100 : decode cX3_readRules 100 = .ok (.bipush 59, 2) := by decide +kernel
theorem dX3_readRules_102 : decode cX3_readRules 102 = .ok (.if_icmp .eq 8, 3) := by decide +kernel
theorem dX3_readRules_105 : decode cX3_readRules 105 = .ok (.aload_n 0, 1) := by decide +kernel
theorem dX3_readRules_106 : decode cX3_readRules 106 = .ok (.invokevirtual 45, 3) := by decide +kernel
theorem dX3_readRules_109 : decode cX3_readRules 109 = .ok (.ireturn, 1) := by decide +kernel
theorem dX3_readRules_110 : decode cX3_readRules 110 = .ok (.aload_n 0, 1) := by decide +kernel
theorem dX3_readRules_111 : decode cX3_readRules 111 = .ok (.dup, 1) := by decide +kernel
theorem dX3_readRules_112 : decode cX3_readRules 112 = .ok (.getfield 19, 3) := by decide +kernel
theorem dX3_readRules_115 : decode cX3_readRules 115 = .ok (.iconst 1, 1) := by decide +kernel
theorem dX3_readRules_116 : decode cX3_readRules 116 = .ok (.iadd, 1) := by decide +kernel
theorem dX3_readRules_117 : decode cX3_readRules 117 = .ok (.putfield 19, 3) := by decide +kernel
theorem dX3_readRules_120 : decode cX3_readRules 120 = .ok (.iconst 0, 1) := by decide +kernel
theorem dX3_readRules_121 : decode cX3_readRules 121 = .ok (.ireturn, 1) := by decide +kernel
set_option maxRecDepth 20000 in
theorem ggX3_readPersons_X3_peek : GoodIn wsX3_readPersons wsX3_peek := goodIn_r _ [6, 1, 7, 8, 125, 126, 127] (by decide +kernel) (by decide +kernel)
set_option maxRecDepth 20000 in
theorem gX3_readPersons_X3_peek : GoodIn wsX3_readPersons (wsV RX3 34 RX3 yX3_peek wsX3_peek) := goodIn_app (goodIn_of _ (by decide +kernel)) ggX3_readPersons_X3_peek
set_option maxRecDepth 20000 in
theorem ggX3_readPersons_J0_indexOf_0f7a4 : GoodIn wsX3_readPersons wsJ0_indexOf_0f7a4 := goodIn_r _ [13, 14, 15, 16, 12, 17, 18, 19, 20, 21, 22, 23, 24, 25, 26, 27, 28, 29, 30, 31, 32, 33, 34, 35, 36, 37, 38, 39, 40, 41, 42, 43, 44, 45, 46, 47, 48, 49, 50, 51, 52, 53, 54, 55, 56, 57, 58, 59, 60, 61, 62, 63, 64, 65, 66, 67, 68, 69, 70, 71, 72, 73, 74, 75, 76, 77, 78, 79, 80, 81, 82, 83, 84, 85, 86, 87, 88, 89, 90, 91, 92, 93, 94, 95, 96, 97] (by decide +kernel) (by decide +kernel)
set_option maxRecDepth 20000 in
theorem gX3_readPersons_J0_indexOf_0f7a4 : GoodIn wsX3_readPersons (wsV RX3 56 RJ0 yJ0_indexOf_0f7a4 wsJ0_indexOf_0f7a4) := goodIn_app (goodIn_of _ (by decide +kernel)) ggX3_readPersons_J0_indexOf_0f7a4
set_option maxRecDepth 20000 in
theorem ggX3_readPersons_X4_within : GoodIn wsX3_readPersons wsX4_within := goodIn_r _ [100] (by decide +kernel) (by decide +kernel)
set_option maxRecDepth 20000 in
theorem gX3_readPersons_X4_within_n41 : GoodIn wsX3_readPersons (wsX4_within) := ggX3_readPersons_X4_within
set_option maxRecDepth 20000 in
theorem ggX3_readPersons_X3_faultHere : GoodIn wsX3_readPersons wsX3_faultHere := goodIn_r _ [104, 1, 125, 126, 127] (by decide +kernel) (by decide +kernel)
set_option maxRecDepth 20000 in
theorem gX3_readPersons_X3_faultHere : GoodIn wsX3_readPersons (wsV RX3 45 RX3 yX3_faultHere wsX3_faultHere) := goodIn_app (goodIn_of _ (by decide +kernel)) ggX3_readPersons_X3_faultHere
set_option maxRecDepth 20000 in
theorem ggX3_readPersons_X0_seatNew : GoodIn wsX3_readPersons wsX0_seatNew := goodIn_r _ [108, 109, 110, 111, 112, 113, 128, 129, 130, 131, 132, 133, 134, 135, 136, 137] (by decide +kernel) (by decide +kernel)
set_option maxRecDepth 20000 in
theorem gX3_readPersons_X0_seatNew_n62 : GoodIn wsX3_readPersons (wsX0_seatNew) := ggX3_readPersons_X0_seatNew
set_option maxRecDepth 20000 in
theorem ggX3_readPersons_X3_readThings : GoodIn wsX3_readPersons wsX3_readThings := goodIn_r _ [117, 1, 2, 3, 4, 5, 6, 7, 8, 98, 99, 100, 118, 106, 119, 120, 112, 113, 121, 122, 123, 124, 128, 129, 130, 131, 132, 133, 134, 135, 136, 137, 125, 126, 127] (by decide +kernel) (by decide +kernel)
set_option maxRecDepth 20000 in
theorem gX3_readPersons_X3_readThings : GoodIn wsX3_readPersons (wsV RX3 65 RX3 yX3_readThings wsX3_readThings) := goodIn_app (goodIn_of _ (by decide +kernel)) ggX3_readPersons_X3_readThings
theorem dX3_readPersons_0 : decode cX3_readPersons 0 = .ok (.iconst 0, 1) := by decide +kernel
theorem dX3_readPersons_1 : decode cX3_readPersons 1 = .ok (.istore_n 2, 1) := by decide +kernel
theorem dX3_readPersons_2 : decode cX3_readPersons 2 = .ok (.iload_n 2, 1) := by decide +kernel
theorem dX3_readPersons_3 : decode cX3_readPersons 3 = .ok (.bipush 6, 2) := by decide +kernel
theorem dX3_readPersons_5 : decode cX3_readPersons 5 = .ok (.if_icmp .ge 92, 3) := by decide +kernel
theorem dX3_readPersons_8 : decode cX3_readPersons 8 = .ok (.ldc 54, 2) := by decide +kernel
theorem dX3_readPersons_10 : decode cX3_readPersons 10 = .ok (.aload_n 0, 1) := by decide +kernel
theorem dX3_readPersons_11 : decode cX3_readPersons 11 = .ok (.invokevirtual 34, 3) := by decide +kernel
theorem dX3_readPersons_14 : decode cX3_readPersons 14 = .ok (.i2c, 1) := by decide +kernel
theorem dX3_readPersons_15 : decode cX3_readPersons 15 = .ok (.invokevirtual 56, 3) := by decide +kernel
theorem dX3_readPersons_18 : decode cX3_readPersons 18 = .ok (.istore_n 3, 1) := by decide +kernel
theorem dX3_readPersons_19 : decode cX3_readPersons 19 = .ok (.iload_n 3, 1) := by decide +kernel
theorem dX3_readPersons_20 : decode cX3_readPersons 20 = .ok (.iconst 0, 1) := by decide +kernel
theorem dX3_readPersons_21 : decode cX3_readPersons 21 = .ok (.iconst 4, 1) := by decide +kernel
theorem dX3_readPersons_22 : decode cX3_readPersons 22 = .ok (.invokestatic 41, 3) := by decide +kernel
theorem dX3_readPersons_25 : decode cX3_readPersons 25 = .ok (.ifCond .ne 8, 3) := by decide +kernel
theorem dX3_readPersons_28 : decode cX3_readPersons 28 = .ok (.aload_n 0, 1) := by decide +kernel
theorem dX3_readPersons_29 : decode cX3_readPersons 29 = .ok (.invokevirtual 45, 3) := by decide +kernel
theorem dX3_readPersons_32 : decode cX3_readPersons 32 = .ok (.ireturn, 1) := by decide +kernel
theorem dX3_readPersons_33 : decode cX3_readPersons 33 = .ok (.aload_n 0, 1) := by decide +kernel
theorem dX3_readPersons_34 : decode cX3_readPersons 34 = .ok (.dup, 1) := by decide +kernel
theorem dX3_readPersons_35 : decode cX3_readPersons 35 = .ok (.getfield 19, 3) := by decide +kernel
theorem dX3_readPersons_38 : decode cX3_readPersons 38 = .ok (.iconst 1, 1) := by decide +kernel
theorem dX3_readPersons_39 : decode cX3_readPersons 39 = .ok (.iadd, 1) := by decide +kernel
theorem dX3_readPersons_40 : decode cX3_readPersons 40 = .ok (.putfield 19, 3) := by decide +kernel
theorem dX3_readPersons_43 : decode cX3_readPersons 43 = .ok (.aload_n 0, 1) := by decide +kernel
theorem dX3_readPersons_44 : decode cX3_readPersons 44 = .ok (.aload_n 1, 1) := by decide +kernel
theorem dX3_readPersons_45 : decode cX3_readPersons 45 = .ok (.aload_n 1, 1) := by decide +kernel
theorem dX3_readPersons_46 : decode cX3_readPersons 46 = .ok (.iload_n 3, 1) := by decide +kernel
theorem dX3_readPersons_47 : decode cX3_readPersons 47 = .ok (.invokevirtual 62, 3) := by decide +kernel
theorem dX3_readPersons_50 : decode cX3_readPersons 50 = .ok (.invokevirtual 65, 3) := by decide +kernel
theorem dX3_readPersons_53 : decode cX3_readPersons 53 = .ok (.aload_n 0, 1) := by decide +kernel
theorem dX3_readPersons_54 : decode cX3_readPersons 54 = .ok (.invokevirtual 34, 3) := by decide +kernel
theorem dX3_readPersons_57 : decode cX3_readPersons 57 = .ok (.ifCond .ne 5, 3) := by decide +kernel
theorem dX3_readPersons_60 : decode cX3_readPersons 60 = .ok (.iconst 0, 1) := by decide +kernel
theorem dX3_readPersons_61 : decode cX3_readPersons 61 = .ok (.ireturn, 1) := by decide +kernel
theorem dX3_readPersons_62 : decode cX3_readPersons 62 = .ok (.aload_n 0, 1) := by decide +kernel
theorem dX3_readPersons_63 : decode cX3_readPersons 63 = .ok (.invokevirtual 34, 3) := by decide +kernel
theorem dX3_readPersons_66 : decode cX3_readPersons 66 = .ok (.bipush 44, 2) := by decide +kernel
theorem dX3_readPersons_68 : decode cX3_readPersons 68 = .ok (.if_icmp .ne 8, 3) := by decide +kernel
theorem dX3_readPersons_71 : decode cX3_readPersons 71 = .ok (.iload_n 2, 1) := by decide +kernel
theorem dX3_readPersons_72 : decode cX3_readPersons 72 = .ok (.iconst 5, 1) := by decide +kernel
theorem dX3_readPersons_73 : decode cX3_readPersons 73 = .ok (.if_icmp .ne 8, 3) := by decide +kernel
