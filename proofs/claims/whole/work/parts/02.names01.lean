theorem dX1_takesRow_1 : decode cX1_takesRow 1 = .ok (.invokestatic 81, 3) := by decide +kernel
theorem dX1_takesRow_4 : decode cX1_takesRow 4 = .ok (.ifCond .ne 5, 3) := by decide +kernel
theorem dX1_takesRow_7 : decode cX1_takesRow 7 = .ok (.iconst 0, 1) := by decide +kernel
theorem dX1_takesRow_8 : decode cX1_takesRow 8 = .ok (.ireturn, 1) := by decide +kernel
theorem dX1_takesRow_9 : decode cX1_takesRow 9 = .ok (.aload_n 0, 1) := by decide +kernel
theorem dX1_takesRow_10 : decode cX1_takesRow 10 = .ok (.iload_n 1, 1) := by decide +kernel
theorem dX1_takesRow_11 : decode cX1_takesRow 11 = .ok (.bipush 48, 2) := by decide +kernel
theorem dX1_takesRow_13 : decode cX1_takesRow 13 = .ok (.isub, 1) := by decide +kernel
theorem dX1_takesRow_14 : decode cX1_takesRow 14 = .ok (.putfield 39, 3) := by decide +kernel
theorem dX1_takesRow_17 : decode cX1_takesRow 17 = .ok (.iconst 1, 1) := by decide +kernel
theorem dX1_takesRow_18 : decode cX1_takesRow 18 = .ok (.ireturn, 1) := by decide +kernel
set_option maxRecDepth 20000 in
theorem ggX1_takesColumn_X1_isSide : GoodIn wsX1_takesColumn wsX1_isSide := goodIn_r _ [6] (by decide +kernel) (by decide +kernel)
set_option maxRecDepth 20000 in
theorem gX1_takesColumn_X1_isSide : GoodIn wsX1_takesColumn (va_wsS RX1 81 yX1_isSide wsX1_isSide) := goodIn_app (goodIn_of _ (by decide +kernel)) ggX1_takesColumn_X1_isSide
set_option maxRecDepth 20000 in
theorem ggX1_takesColumn_X1_takesRock : GoodIn wsX1_takesColumn wsX1_takesRock := goodIn_r _ [10, 11, 12, 13, 14, 15, 16, 5, 17, 18, 19, 24, 25, 26, 27, 28, 29, 30, 31, 32] (by decide +kernel) (by decide +kernel)
set_option maxRecDepth 20000 in
theorem gX1_takesColumn_X1_takesRock : GoodIn wsX1_takesColumn (wsV RX1 84 RX1 yX1_takesRock wsX1_takesRock) := goodIn_app (goodIn_of _ (by decide +kernel)) ggX1_takesColumn_X1_takesRock
set_option maxRecDepth 20000 in
theorem ggX1_takesColumn_X1_takesShip : GoodIn wsX1_takesColumn wsX1_takesShip := goodIn_r _ [23, 18, 19, 24, 25, 26, 27, 28, 29, 30, 31, 32] (by decide +kernel) (by decide +kernel)
set_option maxRecDepth 20000 in
theorem gX1_takesColumn_X1_takesShip : GoodIn wsX1_takesColumn (wsV RX1 87 RX1 yX1_takesShip wsX1_takesShip) := goodIn_app (goodIn_of _ (by decide +kernel)) ggX1_takesColumn_X1_takesShip
theorem dX1_takesColumn_0 : decode cX1_takesColumn 0 = .ok (.iload_n 1, 1) := by decide +kernel
theorem dX1_takesColumn_1 : decode cX1_takesColumn 1 = .ok (.invokestatic 81, 3) := by decide +kernel
theorem dX1_takesColumn_4 : decode cX1_takesColumn 4 = .ok (.ifCond .ne 5, 3) := by decide +kernel
theorem dX1_takesColumn_7 : decode cX1_takesColumn 7 = .ok (.iconst 0, 1) := by decide +kernel
theorem dX1_takesColumn_8 : decode cX1_takesColumn 8 = .ok (.ireturn, 1) := by decide +kernel
theorem dX1_takesColumn_9 : decode cX1_takesColumn 9 = .ok (.bipush 6, 2) := by decide +kernel
theorem dX1_takesColumn_11 : decode cX1_takesColumn 11 = .ok (.aload_n 0, 1) := by decide +kernel
theorem dX1_takesColumn_12 : decode cX1_takesColumn 12 = .ok (.getfield 39, 3) := by decide +kernel
theorem dX1_takesColumn_15 : decode cX1_takesColumn 15 = .ok (.imul, 1) := by decide +kernel
theorem dX1_takesColumn_16 : decode cX1_takesColumn 16 = .ok (.iload_n 1, 1) := by decide +kernel
theorem dX1_takesColumn_17 : decode cX1_takesColumn 17 = .ok (.iadd, 1) := by decide +kernel
theorem dX1_takesColumn_18 : decode cX1_takesColumn 18 = .ok (.bipush 48, 2) := by decide +kernel
theorem dX1_takesColumn_20 : decode cX1_takesColumn 20 = .ok (.isub, 1) := by decide +kernel
theorem dX1_takesColumn_21 : decode cX1_takesColumn 21 = .ok (.istore_n 2, 1) := by decide +kernel
theorem dX1_takesColumn_22 : decode cX1_takesColumn 22 = .ok (.aload_n 0, 1) := by decide +kernel
theorem dX1_takesColumn_23 : decode cX1_takesColumn 23 = .ok (.getfield 35, 3) := by decide +kernel
theorem dX1_takesColumn_26 : decode cX1_takesColumn 26 = .ok (.ifCond .eq 11, 3) := by decide +kernel
theorem dX1_takesColumn_29 : decode cX1_takesColumn 29 = .ok (.aload_n 0, 1) := by decide +kernel
theorem dX1_takesColumn_30 : decode cX1_takesColumn 30 = .ok (.iload_n 2, 1) := by decide +kernel
theorem dX1_takesColumn_31 : decode cX1_takesColumn 31 = .ok (.invokevirtual 84, 3) := by decide +kernel
theorem dX1_takesColumn_34 : decode cX1_takesColumn 34 = .ok (.goto 8, 3) := by decide +kernel
theorem dX1_takesColumn_37 : decode cX1_takesColumn 37 = .ok (.aload_n 0, 1) := by decide +kernel
theorem dX1_takesColumn_38 : decode cX1_takesColumn 38 = .ok (.iload_n 2, 1) := by decide +kernel
theorem dX1_takesColumn_39 : decode cX1_takesColumn 39 = .ok (.invokevirtual 87, 3) := by decide +kernel
theorem dX1_takesColumn_42 : decode cX1_takesColumn 42 = .ok (.ireturn, 1) := by decide +kernel
theorem dX1_takesShip_0 : decode cX1_takesShip 0 = .ok (.aload_n 0, 1) := by decide +kernel
theorem dX1_takesShip_1 : decode cX1_takesShip 1 = .ok (.getfield 24, 3) := by decide +kernel
theorem dX1_takesShip_4 : decode cX1_takesShip 4 = .ok (.iconst 3, 1) := by decide +kernel
theorem dX1_takesShip_5 : decode cX1_takesShip 5 = .ok (.if_icmp .lt 5, 3) := by decide +kernel
theorem dX1_takesShip_8 : decode cX1_takesShip 8 = .ok (.iconst 0, 1) := by decide +kernel
theorem dX1_takesShip_9 : decode cX1_takesShip 9 = .ok (.ireturn, 1) := by decide +kernel
theorem dX1_takesShip_10 : decode cX1_takesShip 10 = .ok (.aload_n 0, 1) := by decide +kernel
theorem dX1_takesShip_11 : decode cX1_takesShip 11 = .ok (.getfield 18, 3) := by decide +kernel
theorem dX1_takesShip_14 : decode cX1_takesShip 14 = .ok (.aload_n 0, 1) := by decide +kernel
theorem dX1_takesShip_15 : decode cX1_takesShip 15 = .ok (.getfield 24, 3) := by decide +kernel
theorem dX1_takesShip_18 : decode cX1_takesShip 18 = .ok (.iload_n 1, 1) := by decide +kernel
theorem dX1_takesShip_19 : decode cX1_takesShip 19 = .ok (.iastore, 1) := by decide +kernel
theorem dX1_takesShip_20 : decode cX1_takesShip 20 = .ok (.aload_n 0, 1) := by decide +kernel
theorem dX1_takesShip_21 : decode cX1_takesShip 21 = .ok (.dup, 1) := by decide +kernel
theorem dX1_takesShip_22 : decode cX1_takesShip 22 = .ok (.getfield 24, 3) := by decide +kernel
theorem dX1_takesShip_25 : decode cX1_takesShip 25 = .ok (.iconst 1, 1) := by decide +kernel
theorem dX1_takesShip_26 : decode cX1_takesShip 26 = .ok (.iadd, 1) := by decide +kernel
theorem dX1_takesShip_27 : decode cX1_takesShip 27 = .ok (.putfield 24, 3) := by decide +kernel
theorem dX1_takesShip_30 : decode cX1_takesShip 30 = .ok (.iconst 1, 1) := by decide +kernel
theorem dX1_takesShip_31 : decode cX1_takesShip 31 = .ok (.ireturn, 1) := by decide +kernel
set_option maxRecDepth 20000 in
theorem ggX1_takesRock_X1_hasShip : GoodIn wsX1_takesRock wsX1_hasShip := goodIn_r _ [8, 9, 10, 11, 12, 13, 14, 15, 16, 17, 18, 19] (by decide +kernel) (by decide +kernel)
set_option maxRecDepth 20000 in
theorem gX1_takesRock_X1_hasShip : GoodIn wsX1_takesRock (wsV RX1 90 RX1 yX1_hasShip wsX1_hasShip) := goodIn_app (goodIn_of _ (by decide +kernel)) ggX1_takesRock_X1_hasShip
theorem dX1_takesRock_0 : decode cX1_takesRock 0 = .ok (.aload_n 0, 1) := by decide +kernel
theorem dX1_takesRock_1 : decode cX1_takesRock 1 = .ok (.getfield 32, 3) := by decide +kernel
theorem dX1_takesRock_4 : decode cX1_takesRock 4 = .ok (.bipush 6, 2) := by decide +kernel
theorem dX1_takesRock_6 : decode cX1_takesRock 6 = .ok (.if_icmp .ge 24, 3) := by decide +kernel
theorem dX1_takesRock_9 : decode cX1_takesRock 9 = .ok (.aload_n 0, 1) := by decide +kernel
theorem dX1_takesRock_10 : decode cX1_takesRock 10 = .ok (.getfield 28, 3) := by decide +kernel
theorem dX1_takesRock_13 : decode cX1_takesRock 13 = .ok (.iload_n 1, 1) := by decide +kernel
theorem dX1_takesRock_14 : decode cX1_takesRock 14 = .ok (.lshr, 1) := by decide +kernel
theorem dX1_takesRock_15 : decode cX1_takesRock 15 = .ok (.lconst 1, 1) := by decide +kernel
theorem dX1_takesRock_16 : decode cX1_takesRock 16 = .ok (.land, 1) := by decide +kernel
theorem dX1_takesRock_17 : decode cX1_takesRock 17 = .ok (.lconst 0, 1) := by decide +kernel
theorem dX1_takesRock_18 : decode cX1_takesRock 18 = .ok (.lcmp, 1) := by decide +kernel
theorem dX1_takesRock_19 : decode cX1_takesRock 19 = .ok (.ifCond .ne 11, 3) := by decide +kernel
theorem dX1_takesRock_22 : decode cX1_takesRock 22 = .ok (.aload_n 0, 1) := by decide +kernel
theorem dX1_takesRock_23 : decode cX1_takesRock 23 = .ok (.iload_n 1, 1) := by decide +kernel
theorem dX1_takesRock_24 : decode cX1_takesRock 24 = .ok (.invokevirtual 90, 3) := by decide +kernel
theorem dX1_takesRock_27 : decode cX1_takesRock 27 = .ok (.ifCond .eq 5, 3) := by decide +kernel
theorem dX1_takesRock_30 : decode cX1_takesRock 30 = .ok (.iconst 0, 1) := by decide +kernel
theorem dX1_takesRock_31 : decode cX1_takesRock 31 = .ok (.ireturn, 1) := by decide +kernel
theorem dX1_takesRock_32 : decode cX1_takesRock 32 = .ok (.aload_n 0, 1) := by decide +kernel
theorem dX1_takesRock_33 : decode cX1_takesRock 33 = .ok (.dup, 1) := by decide +kernel
theorem dX1_takesRock_34 : decode cX1_takesRock 34 = .ok (.getfield 28, 3) := by decide +kernel
theorem dX1_takesRock_37 : decode cX1_takesRock 37 = .ok (.lconst 1, 1) := by decide +kernel
theorem dX1_takesRock_38 : decode cX1_takesRock 38 = .ok (.iload_n 1, 1) := by decide +kernel
theorem dX1_takesRock_39 : decode cX1_takesRock 39 = .ok (.lshl, 1) := by decide +kernel
theorem dX1_takesRock_40 : decode cX1_takesRock 40 = .ok (.lor, 1) := by decide +kernel
theorem dX1_takesRock_41 : decode cX1_takesRock 41 = .ok (.putfield 28, 3) := by decide +kernel
theorem dX1_takesRock_44 : decode cX1_takesRock 44 = .ok (.aload_n 0, 1) := by decide +kernel
theorem dX1_takesRock_45 : decode cX1_takesRock 45 = .ok (.dup, 1) := by decide +kernel
theorem dX1_takesRock_46 : decode cX1_takesRock 46 = .ok (.getfield 32, 3) := by decide +kernel
theorem dX1_takesRock_49 : decode cX1_takesRock 49 = .ok (.iconst 1, 1) := by decide +kernel
theorem dX1_takesRock_50 : decode cX1_takesRock 50 = .ok (.iadd, 1) := by decide +kernel
theorem dX1_takesRock_51 : decode cX1_takesRock 51 = .ok (.putfield 32, 3) := by decide +kernel
theorem dX1_takesRock_54 : decode cX1_takesRock 54 = .ok (.aload_n 0, 1) := by decide +kernel
theorem dX1_takesRock_55 : decode cX1_takesRock 55 = .ok (.iconst 1, 1) := by decide +kernel
theorem dX1_takesRock_56 : decode cX1_takesRock 56 = .ok (.putfield 42, 3) := by decide +kernel
theorem dX1_takesRock_59 : decode cX1_takesRock 59 = .ok (.iconst 1, 1) := by decide +kernel
theorem dX1_takesRock_60 : decode cX1_takesRock 60 = .ok (.ireturn, 1) := by decide +kernel
theorem dX1_hasShip_0 : decode cX1_hasShip 0 = .ok (.iconst 0, 1) := by decide +kernel
theorem dX1_hasShip_1 : decode cX1_hasShip 1 = .ok (.istore_n 2, 1) := by decide +kernel
theorem dX1_hasShip_2 : decode cX1_hasShip 2 = .ok (.iload_n 2, 1) := by decide +kernel
theorem dX1_hasShip_3 : decode cX1_hasShip 3 = .ok (.aload_n 0, 1) := by decide +kernel
theorem dX1_hasShip_4 : decode cX1_hasShip 4 = .ok (.getfield 24, 3) := by decide +kernel
theorem dX1_hasShip_7 : decode cX1_hasShip 7 = .ok (.if_icmp .ge 21, 3) := by decide +kernel
theorem dX1_hasShip_10 : decode cX1_hasShip 10 = .ok (.aload_n 0, 1) := by decide +kernel
theorem dX1_hasShip_11 : decode cX1_hasShip 11 = .ok (.getfield 18, 3) := by decide +kernel
theorem dX1_hasShip_14 : decode cX1_hasShip 14 = .ok (.iload_n 2, 1) := by decide +kernel
theorem dX1_hasShip_15 : decode cX1_hasShip 15 = .ok (.iaload, 1) := by decide +kernel
theorem dX1_hasShip_16 : decode cX1_hasShip 16 = .ok (.iload_n 1, 1) := by decide +kernel
theorem dX1_hasShip_17 : decode cX1_hasShip 17 = .ok (.if_icmp .ne 5, 3) := by decide +kernel
theorem dX1_hasShip_20 : decode cX1_hasShip 20 = .ok (.iconst 1, 1) := by decide +kernel
theorem dX1_hasShip_21 : decode cX1_hasShip 21 = .ok (.ireturn, 1) := by decide +kernel
theorem dX1_hasShip_22 : decode cX1_hasShip 22 = .ok (.iinc 2 1, 3) := by decide +kernel
theorem dX1_hasShip_25 : decode cX1_hasShip 25 = .ok (.goto (-23), 3) := by decide +kernel
theorem dX1_hasShip_28 : decode cX1_hasShip 28 = .ok (.iconst 0, 1) := by decide +kernel
theorem dX1_hasShip_29 : decode cX1_hasShip 29 = .ok (.ireturn, 1) := by decide +kernel
theorem dX1_takesMark_0 : decode cX1_takesMark 0 = .ok (.aload_n 0, 1) := by decide +kernel
theorem dX1_takesMark_1 : decode cX1_takesMark 1 = .ok (.iconst 0, 1) := by decide +kernel
theorem dX1_takesMark_2 : decode cX1_takesMark 2 = .ok (.putfield 42, 3) := by decide +kernel
theorem dX1_takesMark_5 : decode cX1_takesMark 5 = .ok (.iload_n 1, 1) := by decide +kernel
theorem dX1_takesMark_6 : decode cX1_takesMark 6 = .ok (.bipush 44, 2) := by decide +kernel
theorem dX1_takesMark_8 : decode cX1_takesMark 8 = .ok (.if_icmp .ne 41, 3) := by decide +kernel
theorem dX1_takesMark_11 : decode cX1_takesMark 11 = .ok (.aload_n 0, 1) := by decide +kernel
theorem dX1_takesMark_12 : decode cX1_takesMark 12 = .ok (.getfield 35, 3) := by decide +kernel
theorem dX1_takesMark_15 : decode cX1_takesMark 15 = .ok (.ifCond .eq 20, 3) := by decide +kernel
theorem dX1_takesMark_18 : decode cX1_takesMark 18 = .ok (.aload_n 0, 1) := by decide +kernel
theorem dX1_takesMark_19 : decode cX1_takesMark 19 = .ok (.getfield 32, 3) := by decide +kernel
theorem dX1_takesMark_22 : decode cX1_takesMark 22 = .ok (.bipush 6, 2) := by decide +kernel
theorem dX1_takesMark_24 : decode cX1_takesMark 24 = .ok (.if_icmp .ge 7, 3) := by decide +kernel
theorem dX1_takesMark_27 : decode cX1_takesMark 27 = .ok (.iconst 1, 1) := by decide +kernel
theorem dX1_takesMark_28 : decode cX1_takesMark 28 = .ok (.goto 20, 3) := by decide +kernel
theorem dX1_takesMark_31 : decode cX1_takesMark 31 = .ok (.iconst 0, 1) := by decide +kernel
theorem dX1_takesMark_32 : decode cX1_takesMark 32 = .ok (.goto 16, 3) := by decide +kernel
theorem dX1_takesMark_35 : decode cX1_takesMark 35 = .ok (.aload_n 0, 1) := by decide +kernel
theorem dX1_takesMark_36 : decode cX1_takesMark 36 = .ok (.getfield 24, 3) := by decide +kernel
theorem dX1_takesMark_39 : decode cX1_takesMark 39 = .ok (.iconst 3, 1) := by decide +kernel
theorem dX1_takesMark_40 : decode cX1_takesMark 40 = .ok (.if_icmp .ge 7, 3) := by decide +kernel
theorem dX1_takesMark_43 : decode cX1_takesMark 43 = .ok (.iconst 1, 1) := by decide +kernel
theorem dX1_takesMark_44 : decode cX1_takesMark 44 = .ok (.goto 4, 3) := by decide +kernel
theorem dX1_takesMark_47 : decode cX1_takesMark 47 = .ok (.iconst 0, 1) := by decide +kernel
theorem dX1_takesMark_48 : decode cX1_takesMark 48 = .ok (.ireturn, 1) := by decide +kernel
theorem dX1_takesMark_49 : decode cX1_takesMark 49 = .ok (.iload_n 1, 1) := by decide +kernel
theorem dX1_takesMark_50 : decode cX1_takesMark 50 = .ok (.bipush 59, 2) := by decide +kernel
theorem dX1_takesMark_52 : decode cX1_takesMark 52 = .ok (.if_icmp .ne 17, 3) := by decide +kernel
theorem dX1_takesMark_55 : decode cX1_takesMark 55 = .ok (.aload_n 0, 1) := by decide +kernel
theorem dX1_takesMark_56 : decode cX1_takesMark 56 = .ok (.getfield 35, 3) := by decide +kernel
theorem dX1_takesMark_59 : decode cX1_takesMark 59 = .ok (.ifCond .ne 10, 3) := by decide +kernel
theorem dX1_takesMark_62 : decode cX1_takesMark 62 = .ok (.aload_n 0, 1) := by decide +kernel
theorem dX1_takesMark_63 : decode cX1_takesMark 63 = .ok (.iconst 1, 1) := by decide +kernel
theorem dX1_takesMark_64 : decode cX1_takesMark 64 = .ok (.putfield 35, 3) := by decide +kernel
theorem dX1_takesMark_67 : decode cX1_takesMark 67 = .ok (.iconst 1, 1) := by decide +kernel
theorem dX1_takesMark_68 : decode cX1_takesMark 68 = .ok (.ireturn, 1) := by decide +kernel
theorem dX1_takesMark_69 : decode cX1_takesMark 69 = .ok (.iconst 0, 1) := by decide +kernel
theorem dX1_takesMark_70 : decode cX1_takesMark 70 = .ok (.ireturn, 1) := by decide +kernel
theorem dX2_init_0 : decode cX2_init 0 = .ok (.aload_n 0, 1) := by decide +kernel
theorem dX2_init_1 : decode cX2_init 1 = .ok (.invokespecial 3, 3) := by decide +kernel
theorem dX2_init_4 : decode cX2_init 4 = .ok (.aload_n 0, 1) := by decide +kernel
theorem dX2_init_5 : decode cX2_init 5 = .ok (.iconst 4, 1) := by decide +kernel
theorem dX2_init_6 : decode cX2_init 6 = .ok (.newarray .int, 2) := by decide +kernel
theorem dX2_init_8 : decode cX2_init 8 = .ok (.putfield 9, 3) := by decide +kernel
theorem dX2_init_11 : decode cX2_init 11 = .ok (.aload_n 0, 1) := by decide +kernel
theorem dX2_init_12 : decode cX2_init 12 = .ok (.iconst 4, 1) := by decide +kernel
theorem dX2_init_13 : decode cX2_init 13 = .ok (.newarray .int, 2) := by decide +kernel
theorem dX2_init_15 : decode cX2_init 15 = .ok (.putfield 15, 3) := by decide +kernel
theorem dX2_init_18 : decode cX2_init 18 = .ok (.aload_n 0, 1) := by decide +kernel
theorem dX2_init_19 : decode cX2_init 19 = .ok (.iconst 3, 1) := by decide +kernel
theorem dX2_init_20 : decode cX2_init 20 = .ok (.newarray .int, 2) := by decide +kernel
theorem dX2_init_22 : decode cX2_init 22 = .ok (.putfield 18, 3) := by decide +kernel
theorem dX2_init_25 : decode cX2_init 25 = .ok (.aload_n 0, 1) := by decide +kernel
theorem dX2_init_26 : decode cX2_init 26 = .ok (.bipush 6, 2) := by decide +kernel
theorem dX2_init_28 : decode cX2_init 28 = .ok (.newarray .int, 2) := by decide +kernel
theorem dX2_init_30 : decode cX2_init 30 = .ok (.putfield 21, 3) := by decide +kernel
theorem dX2_init_33 : decode cX2_init 33 = .ok (.aload_n 0, 1) := by decide +kernel
theorem dX2_init_34 : decode cX2_init 34 = .ok (.bipush 6, 2) := by decide +kernel
theorem dX2_init_36 : decode cX2_init 36 = .ok (.newarray .int, 2) := by decide +kernel
theorem dX2_init_38 : decode cX2_init 38 = .ok (.putfield 24, 3) := by decide +kernel
theorem dX2_init_41 : decode cX2_init 41 = .ok (.aload_n 0, 1) := by decide +kernel
theorem dX2_init_42 : decode cX2_init 42 = .ok (.bipush 6, 2) := by decide +kernel
theorem dX2_init_44 : decode cX2_init 44 = .ok (.newarray .int, 2) := by decide +kernel
theorem dX2_init_46 : decode cX2_init 46 = .ok (.putfield 27, 3) := by decide +kernel
theorem dX2_init_49 : decode cX2_init 49 = .ok (.return_, 1) := by decide +kernel
theorem dX2_begin_0 : decode cX2_begin 0 = .ok (.aload_n 1, 1) := by decide +kernel
theorem dX2_begin_1 : decode cX2_begin 1 = .ok (.getfield 30, 3) := by decide +kernel
theorem dX2_begin_4 : decode cX2_begin 4 = .ok (.iconst 0, 1) := by decide +kernel
theorem dX2_begin_5 : decode cX2_begin 5 = .ok (.aload_n 0, 1) := by decide +kernel
theorem dX2_begin_6 : decode cX2_begin 6 = .ok (.getfield 9, 3) := by decide +kernel
theorem dX2_begin_9 : decode cX2_begin 9 = .ok (.iconst 0, 1) := by decide +kernel
theorem dX2_begin_10 : decode cX2_begin 10 = .ok (.iconst 4, 1) := by decide +kernel
theorem dX2_begin_11 : decode cX2_begin 11 = .ok (.invokestatic 33, 3) := by decide +kernel
theorem dX2_begin_14 : decode cX2_begin 14 = .ok (.aload_n 1, 1) := by decide +kernel
theorem dX2_begin_15 : decode cX2_begin 15 = .ok (.getfield 39, 3) := by decide +kernel
theorem dX2_begin_18 : decode cX2_begin 18 = .ok (.iconst 0, 1) := by decide +kernel
theorem dX2_begin_19 : decode cX2_begin 19 = .ok (.aload_n 0, 1) := by decide +kernel
theorem dX2_begin_20 : decode cX2_begin 20 = .ok (.getfield 15, 3) := by decide +kernel
theorem dX2_begin_23 : decode cX2_begin 23 = .ok (.iconst 0, 1) := by decide +kernel
theorem dX2_begin_24 : decode cX2_begin 24 = .ok (.iconst 4, 1) := by decide +kernel
theorem dX2_begin_25 : decode cX2_begin 25 = .ok (.invokestatic 33, 3) := by decide +kernel
theorem dX2_begin_28 : decode cX2_begin 28 = .ok (.aload_n 1, 1) := by decide +kernel
theorem dX2_begin_29 : decode cX2_begin 29 = .ok (.getfield 42, 3) := by decide +kernel
theorem dX2_begin_32 : decode cX2_begin 32 = .ok (.iconst 0, 1) := by decide +kernel
theorem dX2_begin_33 : decode cX2_begin 33 = .ok (.aload_n 0, 1) := by decide +kernel
theorem dX2_begin_34 : decode cX2_begin 34 = .ok (.getfield 18, 3) := by decide +kernel
theorem dX2_begin_37 : decode cX2_begin 37 = .ok (.iconst 0, 1) := by decide +kernel
theorem dX2_begin_38 : decode cX2_begin 38 = .ok (.iconst 3, 1) := by decide +kernel
theorem dX2_begin_39 : decode cX2_begin 39 = .ok (.invokestatic 33, 3) := by decide +kernel
theorem dX2_begin_42 : decode cX2_begin 42 = .ok (.aload_n 0, 1) := by decide +kernel
theorem dX2_begin_43 : decode cX2_begin 43 = .ok (.iconst 0, 1) := by decide +kernel
theorem dX2_begin_44 : decode cX2_begin 44 = .ok (.putfield 45, 3) := by decide +kernel
theorem dX2_begin_47 : decode cX2_begin 47 = .ok (.aload_n 0, 1) := by decide +kernel
theorem dX2_begin_48 : decode cX2_begin 48 = .ok (.iconst 0, 1) := by decide +kernel
theorem dX2_begin_49 : decode cX2_begin 49 = .ok (.putfield 49, 3) := by decide +kernel
theorem dX2_begin_52 : decode cX2_begin 52 = .ok (.aload_n 0, 1) := by decide +kernel
theorem dX2_begin_53 : decode cX2_begin 53 = .ok (.iconst 0, 1) := by decide +kernel
theorem dX2_begin_54 : decode cX2_begin 54 = .ok (.putfield 52, 3) := by decide +kernel
theorem dX2_begin_57 : decode cX2_begin 57 = .ok (.aload_n 0, 1) := by decide +kernel
theorem dX2_begin_58 : decode cX2_begin 58 = .ok (.iconst 0, 1) := by decide +kernel
theorem dX2_begin_59 : decode cX2_begin 59 = .ok (.putfield 56, 3) := by decide +kernel
theorem dX2_begin_62 : decode cX2_begin 62 = .ok (.aload_n 0, 1) := by decide +kernel
theorem dX2_begin_63 : decode cX2_begin 63 = .ok (.iconst 0, 1) := by decide +kernel
theorem dX2_begin_64 : decode cX2_begin 64 = .ok (.putfield 59, 3) := by decide +kernel
theorem dX2_begin_67 : decode cX2_begin 67 = .ok (.return_, 1) := by decide +kernel
theorem dX2_copyFrom_0 : decode cX2_copyFrom 0 = .ok (.aload_n 1, 1) := by decide +kernel
theorem dX2_copyFrom_1 : decode cX2_copyFrom 1 = .ok (.getfield 9, 3) := by decide +kernel
theorem dX2_copyFrom_4 : decode cX2_copyFrom 4 = .ok (.iconst 0, 1) := by decide +kernel
theorem dX2_copyFrom_5 : decode cX2_copyFrom 5 = .ok (.aload_n 0, 1) := by decide +kernel
theorem dX2_copyFrom_6 : decode cX2_copyFrom 6 = .ok (.getfield 9, 3) := by decide +kernel
theorem dX2_copyFrom_9 : decode cX2_copyFrom 9 = .ok (.iconst 0, 1) := by decide +kernel
theorem dX2_copyFrom_10 : decode cX2_copyFrom 10 = .ok (.iconst 4, 1) := by decide +kernel
theorem dX2_copyFrom_11 : decode cX2_copyFrom 11 = .ok (.invokestatic 33, 3) := by decide +kernel
theorem dX2_copyFrom_14 : decode cX2_copyFrom 14 = .ok (.aload_n 1, 1) := by decide +kernel
theorem dX2_copyFrom_15 : decode cX2_copyFrom 15 = .ok (.getfield 15, 3) := by decide +kernel
theorem dX2_copyFrom_18 : decode cX2_copyFrom 18 = .ok (.iconst 0, 1) := by decide +kernel
theorem dX2_copyFrom_19 : decode cX2_copyFrom 19 = .ok (.aload_n 0, 1) := by decide +kernel
theorem dX2_copyFrom_20 : decode cX2_copyFrom 20 = .ok (.getfield 15, 3) := by decide +kernel
theorem dX2_copyFrom_23 : decode cX2_copyFrom 23 = .ok (.iconst 0, 1) := by decide +kernel
theorem dX2_copyFrom_24 : decode cX2_copyFrom 24 = .ok (.iconst 4, 1) := by decide +kernel
theorem dX2_copyFrom_25 : decode cX2_copyFrom 25 = .ok (.invokestatic 33, 3) := by decide +kernel
theorem dX2_copyFrom_28 : decode cX2_copyFrom 28 = .ok (.aload_n 1, 1) := by decide +kernel
theorem dX2_copyFrom_29 : decode cX2_copyFrom 29 = .ok (.getfield 18, 3) := by decide +kernel
theorem dX2_copyFrom_32 : decode cX2_copyFrom 32 = .ok (.iconst 0, 1) := by decide +kernel
theorem dX2_copyFrom_33 : decode cX2_copyFrom 33 = .ok (.aload_n 0, 1) := by decide +kernel
theorem dX2_copyFrom_34 : decode cX2_copyFrom 34 = .ok (.getfield 18, 3) := by decide +kernel
theorem dX2_copyFrom_37 : decode cX2_copyFrom 37 = .ok (.iconst 0, 1) := by decide +kernel
theorem dX2_copyFrom_38 : decode cX2_copyFrom 38 = .ok (.iconst 3, 1) := by decide +kernel
theorem dX2_copyFrom_39 : decode cX2_copyFrom 39 = .ok (.invokestatic 33, 3) := by decide +kernel
theorem dX2_copyFrom_42 : decode cX2_copyFrom 42 = .ok (.aload_n 1, 1) := by decide +kernel
theorem dX2_copyFrom_43 : decode cX2_copyFrom 43 = .ok (.getfield 21, 3) := by decide +kernel
theorem dX2_copyFrom_46 : decode cX2_copyFrom 46 = .ok (.iconst 0, 1) := by decide +kernel
theorem dX2_copyFrom_47 : decode cX2_copyFrom 47 = .ok (.aload_n 0, 1) := by decide +kernel
theorem dX2_copyFrom_48 : decode cX2_copyFrom 48 = .ok (.getfield 21, 3) := by decide +kernel
theorem dX2_copyFrom_51 : decode cX2_copyFrom 51 = .ok (.iconst 0, 1) := by decide +kernel
theorem dX2_copyFrom_52 : decode cX2_copyFrom 52 = .ok (.bipush 6, 2) := by decide +kernel
theorem dX2_copyFrom_54 : decode cX2_copyFrom 54 = .ok (.invokestatic 33, 3) := by decide +kernel
theorem dX2_copyFrom_57 : decode cX2_copyFrom 57 = .ok (.aload_n 1, 1) := by decide +kernel
theorem dX2_copyFrom_58 : decode cX2_copyFrom 58 = .ok (.getfield 24, 3) := by decide +kernel
theorem dX2_copyFrom_61 : decode cX2_copyFrom 61 = .ok (.iconst 0, 1) := by decide +kernel
theorem dX2_copyFrom_62 : decode cX2_copyFrom 62 = .ok (.aload_n 0, 1) := by decide +kernel
theorem dX2_copyFrom_63 : decode cX2_copyFrom 63 = .ok (.getfield 24, 3) := by decide +kernel
theorem dX2_copyFrom_66 : decode cX2_copyFrom 66 = .ok (.iconst 0, 1) := by decide +kernel
theorem dX2_copyFrom_67 : decode cX2_copyFrom 67 = .ok (.bipush 6, 2) := by decide +kernel
theorem dX2_copyFrom_69 : decode cX2_copyFrom 69 = .ok (.invokestatic 33, 3) := by decide +kernel
theorem dX2_copyFrom_72 : decode cX2_copyFrom 72 = .ok (.aload_n 1, 1) := by decide +kernel
theorem dX2_copyFrom_73 : decode cX2_copyFrom 73 = .ok (.getfield 27, 3) := by decide +kernel
theorem dX2_copyFrom_76 : decode cX2_copyFrom 76 = .ok (.iconst 0, 1) := by decide +kernel
theorem dX2_copyFrom_77 : decode cX2_copyFrom 77 = .ok (.aload_n 0, 1) := by decide +kernel
theorem dX2_copyFrom_78 : decode cX2_copyFrom 78 = .ok (.getfield 27, 3) := by decide +kernel
theorem dX2_copyFrom_81 : decode cX2_copyFrom 81 = .ok (.iconst 0, 1) := by decide +kernel
theorem dX2_copyFrom_82 : decode cX2_copyFrom 82 = .ok (.bipush 6, 2) := by decide +kernel
theorem dX2_copyFrom_84 : decode cX2_copyFrom 84 = .ok (.invokestatic 33, 3) := by decide +kernel
theorem dX2_copyFrom_87 : decode cX2_copyFrom 87 = .ok (.aload_n 0, 1) := by decide +kernel
theorem dX2_copyFrom_88 : decode cX2_copyFrom 88 = .ok (.aload_n 1, 1) := by decide +kernel
theorem dX2_copyFrom_89 : decode cX2_copyFrom 89 = .ok (.getfield 45, 3) := by decide +kernel
theorem dX2_copyFrom_92 : decode cX2_copyFrom 92 = .ok (.putfield 45, 3) := by decide +kernel
theorem dX2_copyFrom_95 : decode cX2_copyFrom 95 = .ok (.aload_n 0, 1) := by decide +kernel
theorem dX2_copyFrom_96 : decode cX2_copyFrom 96 = .ok (.aload_n 1, 1) := by decide +kernel
theorem dX2_copyFrom_97 : decode cX2_copyFrom 97 = .ok (.getfield 49, 3) := by decide +kernel
theorem dX2_copyFrom_100 : decode cX2_copyFrom 100 = .ok (.putfield 49, 3) := by decide +kernel
theorem dX2_copyFrom_103 : decode cX2_copyFrom 103 = .ok (.aload_n 0, 1) := by decide +kernel
theorem dX2_copyFrom_104 : decode cX2_copyFrom 104 = .ok (.aload_n 1, 1) := by decide +kernel
theorem dX2_copyFrom_105 : decode cX2_copyFrom 105 = .ok (.getfield 52, 3) := by decide +kernel
theorem dX2_copyFrom_108 : decode cX2_copyFrom 108 = .ok (.putfield 52, 3) := by decide +kernel
theorem dX2_copyFrom_111 : decode cX2_copyFrom 111 = .ok (.aload_n 0, 1) := by decide +kernel
theorem dX2_copyFrom_112 : decode cX2_copyFrom 112 = .ok (.aload_n 1, 1) := by decide +kernel
theorem dX2_copyFrom_113 : decode cX2_copyFrom 113 = .ok (.getfield 56, 3) := by decide +kernel
theorem dX2_copyFrom_116 : decode cX2_copyFrom 116 = .ok (.putfield 56, 3) := by decide +kernel
theorem dX2_copyFrom_119 : decode cX2_copyFrom 119 = .ok (.aload_n 0, 1) := by decide +kernel
theorem dX2_copyFrom_120 : decode cX2_copyFrom 120 = .ok (.aload_n 1, 1) := by decide +kernel
theorem dX2_copyFrom_121 : decode cX2_copyFrom 121 = .ok (.getfield 59, 3) := by decide +kernel
theorem dX2_copyFrom_124 : decode cX2_copyFrom 124 = .ok (.putfield 59, 3) := by decide +kernel
theorem dX2_copyFrom_127 : decode cX2_copyFrom 127 = .ok (.return_, 1) := by decide +kernel
theorem dX2_hasSailed_0 : decode cX2_hasSailed 0 = .ok (.aload_n 0, 1) := by decide +kernel
theorem dX2_hasSailed_1 : decode cX2_hasSailed 1 = .ok (.getfield 45, 3) := by decide +kernel
theorem dX2_hasSailed_4 : decode cX2_hasSailed 4 = .ok (.iload_n 1, 1) := by decide +kernel
theorem dX2_hasSailed_5 : decode cX2_hasSailed 5 = .ok (.ishr, 1) := by decide +kernel
theorem dX2_hasSailed_6 : decode cX2_hasSailed 6 = .ok (.iconst 1, 1) := by decide +kernel
theorem dX2_hasSailed_7 : decode cX2_hasSailed 7 = .ok (.iand, 1) := by decide +kernel
theorem dX2_hasSailed_8 : decode cX2_hasSailed 8 = .ok (.ifCond .eq 7, 3) := by decide +kernel
theorem dX2_hasSailed_11 : decode cX2_hasSailed 11 = .ok (.iconst 1, 1) := by decide +kernel
theorem dX2_hasSailed_12 : decode cX2_hasSailed 12 = .ok (.goto 4, 3) := by decide +kernel
theorem dX2_hasSailed_15 : decode cX2_hasSailed 15 = .ok (.iconst 0, 1) := by decide +kernel
theorem dX2_hasSailed_16 : decode cX2_hasSailed 16 = .ok (.ireturn, 1) := by decide +kernel
theorem dX2_sailTo_0 : decode cX2_sailTo 0 = .ok (.aload_n 0, 1) := by decide +kernel
theorem dX2_sailTo_1 : decode cX2_sailTo 1 = .ok (.getfield 18, 3) := by decide +kernel
theorem dX2_sailTo_4 : decode cX2_sailTo 4 = .ok (.iload_n 1, 1) := by decide +kernel
theorem dX2_sailTo_5 : decode cX2_sailTo 5 = .ok (.iload_n 2, 1) := by decide +kernel
theorem dX2_sailTo_6 : decode cX2_sailTo 6 = .ok (.iastore, 1) := by decide +kernel
theorem dX2_sailTo_7 : decode cX2_sailTo 7 = .ok (.aload_n 0, 1) := by decide +kernel
theorem dX2_sailTo_8 : decode cX2_sailTo 8 = .ok (.dup, 1) := by decide +kernel
theorem dX2_sailTo_9 : decode cX2_sailTo 9 = .ok (.getfield 45, 3) := by decide +kernel
theorem dX2_sailTo_12 : decode cX2_sailTo 12 = .ok (.iconst 1, 1) := by decide +kernel
theorem dX2_sailTo_13 : decode cX2_sailTo 13 = .ok (.iload_n 1, 1) := by decide +kernel
theorem dX2_sailTo_14 : decode cX2_sailTo 14 = .ok (.ishl, 1) := by decide +kernel
theorem dX2_sailTo_15 : decode cX2_sailTo 15 = .ok (.ior, 1) := by decide +kernel
theorem dX2_sailTo_16 : decode cX2_sailTo 16 = .ok (.putfield 45, 3) := by decide +kernel
theorem dX2_sailTo_19 : decode cX2_sailTo 19 = .ok (.aload_n 0, 1) := by decide +kernel
theorem dX2_sailTo_20 : decode cX2_sailTo 20 = .ok (.dup, 1) := by decide +kernel
theorem dX2_sailTo_21 : decode cX2_sailTo 21 = .ok (.getfield 56, 3) := by decide +kernel
theorem dX2_sailTo_24 : decode cX2_sailTo 24 = .ok (.iconst 1, 1) := by decide +kernel
theorem dX2_sailTo_25 : decode cX2_sailTo 25 = .ok (.iadd, 1) := by decide +kernel
theorem dX2_sailTo_26 : decode cX2_sailTo 26 = .ok (.putfield 56, 3) := by decide +kernel
theorem dX2_sailTo_29 : decode cX2_sailTo 29 = .ok (.return_, 1) := by decide +kernel
theorem dX2_beginNextDay_0 : decode cX2_beginNextDay 0 = .ok (.aload_n 0, 1) := by decide +kernel
theorem dX2_beginNextDay_1 : decode cX2_beginNextDay 1 = .ok (.dup, 1) := by decide +kernel
theorem dX2_beginNextDay_2 : decode cX2_beginNextDay 2 = .ok (.getfield 49, 3) := by decide +kernel
theorem dX2_beginNextDay_5 : decode cX2_beginNextDay 5 = .ok (.iconst 1, 1) := by decide +kernel
theorem dX2_beginNextDay_6 : decode cX2_beginNextDay 6 = .ok (.iadd, 1) := by decide +kernel
theorem dX2_beginNextDay_7 : decode cX2_beginNextDay 7 = .ok (.putfield 49, 3) := by decide +kernel
theorem dX2_beginNextDay_10 : decode cX2_beginNextDay 10 = .ok (.aload_n 0, 1) := by decide +kernel
theorem dX2_beginNextDay_11 : decode cX2_beginNextDay 11 = .ok (.iconst 0, 1) := by decide +kernel
theorem dX2_beginNextDay_12 : decode cX2_beginNextDay 12 = .ok (.putfield 45, 3) := by decide +kernel
theorem dX2_beginNextDay_15 : decode cX2_beginNextDay 15 = .ok (.return_, 1) := by decide +kernel
theorem dX2_illFor_0 : decode cX2_illFor 0 = .ok (.iconst 0, 1) := by decide +kernel
theorem dX2_illFor_1 : decode cX2_illFor 1 = .ok (.aload_n 0, 1) := by decide +kernel
theorem dX2_illFor_2 : decode cX2_illFor 2 = .ok (.getfield 15, 3) := by decide +kernel
theorem dX2_illFor_5 : decode cX2_illFor 5 = .ok (.iload_n 1, 1) := by decide +kernel
theorem dX2_illFor_6 : decode cX2_illFor 6 = .ok (.iaload, 1) := by decide +kernel
theorem dX2_illFor_7 : decode cX2_illFor 7 = .ok (.aload_n 0, 1) := by decide +kernel
theorem dX2_illFor_8 : decode cX2_illFor 8 = .ok (.getfield 49, 3) := by decide +kernel
theorem dX2_illFor_11 : decode cX2_illFor 11 = .ok (.isub, 1) := by decide +kernel
theorem dX2_illFor_12 : decode cX2_illFor 12 = .ok (.invokestatic 62, 3) := by decide +kernel
theorem dX2_illFor_15 : decode cX2_illFor 15 = .ok (.ireturn, 1) := by decide +kernel
theorem dX2_isIll_0 : decode cX2_isIll 0 = .ok (.iload_n 2, 1) := by decide +kernel
theorem dX2_isIll_1 : decode cX2_isIll 1 = .ok (.aload_n 0, 1) := by decide +kernel
theorem dX2_isIll_2 : decode cX2_isIll 2 = .ok (.getfield 15, 3) := by decide +kernel
theorem dX2_isIll_5 : decode cX2_isIll 5 = .ok (.iload_n 1, 1) := by decide +kernel
theorem dX2_isIll_6 : decode cX2_isIll 6 = .ok (.iaload, 1) := by decide +kernel
theorem dX2_isIll_7 : decode cX2_isIll 7 = .ok (.if_icmp .ge 7, 3) := by decide +kernel
theorem dX2_isIll_10 : decode cX2_isIll 10 = .ok (.iconst 1, 1) := by decide +kernel
theorem dX2_isIll_11 : decode cX2_isIll 11 = .ok (.goto 4, 3) := by decide +kernel
theorem dX2_isIll_14 : decode cX2_isIll 14 = .ok (.iconst 0, 1) := by decide +kernel
theorem dX2_isIll_15 : decode cX2_isIll 15 = .ok (.ireturn, 1) := by decide +kernel
set_option maxRecDepth 20000 in
theorem ggX2_isUp_X2_isIll : GoodIn wsX2_isUp wsX2_isIll := goodIn_r _ [6, 7, 11, 12, 13, 14, 15, 16, 17, 18, 19, 20, 21] (by decide +kernel) (by decide +kernel)
set_option maxRecDepth 20000 in
theorem gX2_isUp_X2_isIll : GoodIn wsX2_isUp (wsV RX2 68 RX2 yX2_isIll wsX2_isIll) := goodIn_app (goodIn_of _ (by decide +kernel)) ggX2_isUp_X2_isIll
set_option maxRecDepth 20000 in
theorem ggX2_isUp_X2_kindIsUp : GoodIn wsX2_isUp wsX2_kindIsUp := goodIn_r _ [10] (by decide +kernel) (by decide +kernel)
set_option maxRecDepth 20000 in
theorem gX2_isUp_X2_kindIsUp : GoodIn wsX2_isUp (va_wsS RX2 72 yX2_kindIsUp wsX2_kindIsUp) := goodIn_app (goodIn_of _ (by decide +kernel)) ggX2_isUp_X2_kindIsUp
theorem dX2_isUp_0 : decode cX2_isUp 0 = .ok (.aload_n 0, 1) := by decide +kernel
theorem dX2_isUp_1 : decode cX2_isUp 1 = .ok (.getfield 9, 3) := by decide +kernel
theorem dX2_isUp_4 : decode cX2_isUp 4 = .ok (.iload_n 1, 1) := by decide +kernel
theorem dX2_isUp_5 : decode cX2_isUp 5 = .ok (.iaload, 1) := by decide +kernel
theorem dX2_isUp_6 : decode cX2_isUp 6 = .ok (.aload_n 0, 1) := by decide +kernel
theorem dX2_isUp_7 : decode cX2_isUp 7 = .ok (.iload_n 1, 1) := by decide +kernel
theorem dX2_isUp_8 : decode cX2_isUp 8 = .ok (.iload_n 2, 1) := by decide +kernel
theorem dX2_isUp_9 : decode cX2_isUp 9 = .ok (.invokevirtual 68, 3) := by decide +kernel
theorem dX2_isUp_12 : decode cX2_isUp 12 = .ok (.iload_n 2, 1) := by decide +kernel
theorem dX2_isUp_13 : decode cX2_isUp 13 = .ok (.invokestatic 72, 3) := by decide +kernel
theorem dX2_isUp_16 : decode cX2_isUp 16 = .ok (.ireturn, 1) := by decide +kernel
theorem dX2_kindIsUp_0 : decode cX2_kindIsUp 0 = .ok (.iload_n 0, 1) := by decide +kernel
theorem dX2_kindIsUp_1 : decode cX2_kindIsUp 1 = .ok (.tableswitch 89 1 4 #[31, 48, 64, 66], 31) := by decide +kernel
theorem dX2_kindIsUp_32 : decode cX2_kindIsUp 32 = .ok (.iload_n 1, 1) := by decide +kernel
theorem dX2_kindIsUp_33 : decode cX2_kindIsUp 33 = .ok (.ifCond .ne 14, 3) := by decide +kernel
theorem dX2_kindIsUp_36 : decode cX2_kindIsUp 36 = .ok (.iload_n 2, 1) := by decide +kernel
theorem dX2_kindIsUp_37 : decode cX2_kindIsUp 37 = .ok (.iconst 2, 1) := by decide +kernel
theorem dX2_kindIsUp_38 : decode cX2_kindIsUp 38 = .ok (.irem, 1) := by decide +kernel
theorem dX2_kindIsUp_39 : decode cX2_kindIsUp 39 = .ok (.iconst 1, 1) := by decide +kernel
theorem dX2_kindIsUp_40 : decode cX2_kindIsUp 40 = .ok (.if_icmp .ne 7, 3) := by decide +kernel
theorem dX2_kindIsUp_43 : decode cX2_kindIsUp 43 = .ok (.iconst 1, 1) := by decide +kernel
theorem dX2_kindIsUp_44 : decode cX2_kindIsUp 44 = .ok (.goto 4, 3) := by decide +kernel
theorem dX2_kindIsUp_47 : decode cX2_kindIsUp 47 = .ok (.iconst 0, 1) := by decide +kernel
theorem dX2_kindIsUp_48 : decode cX2_kindIsUp 48 = .ok (.ireturn, 1) := by decide +kernel
theorem dX2_kindIsUp_49 : decode cX2_kindIsUp 49 = .ok (.iload_n 1, 1) := by decide +kernel
theorem dX2_kindIsUp_50 : decode cX2_kindIsUp 50 = .ok (.ifCond .ne 13, 3) := by decide +kernel
theorem dX2_kindIsUp_53 : decode cX2_kindIsUp 53 = .ok (.iload_n 2, 1) := by decide +kernel
theorem dX2_kindIsUp_54 : decode cX2_kindIsUp 54 = .ok (.iconst 3, 1) := by decide +kernel
theorem dX2_kindIsUp_55 : decode cX2_kindIsUp 55 = .ok (.irem, 1) := by decide +kernel
theorem dX2_kindIsUp_56 : decode cX2_kindIsUp 56 = .ok (.ifCond .eq 7, 3) := by decide +kernel
theorem dX2_kindIsUp_59 : decode cX2_kindIsUp 59 = .ok (.iconst 1, 1) := by decide +kernel
theorem dX2_kindIsUp_60 : decode cX2_kindIsUp 60 = .ok (.goto 4, 3) := by decide +kernel
theorem dX2_kindIsUp_63 : decode cX2_kindIsUp 63 = .ok (.iconst 0, 1) := by decide +kernel
theorem dX2_kindIsUp_64 : decode cX2_kindIsUp 64 = .ok (.ireturn, 1) := by decide +kernel
theorem dX2_kindIsUp_65 : decode cX2_kindIsUp 65 = .ok (.iconst 1, 1) := by decide +kernel
theorem dX2_kindIsUp_66 : decode cX2_kindIsUp 66 = .ok (.ireturn, 1) := by decide +kernel
theorem dX2_kindIsUp_67 : decode cX2_kindIsUp 67 = .ok (.iload_n 1, 1) := by decide +kernel
theorem dX2_kindIsUp_68 : decode cX2_kindIsUp 68 = .ok (.ifCond .ne 10, 3) := by decide +kernel
theorem dX2_kindIsUp_71 : decode cX2_kindIsUp 71 = .ok (.iload_n 2, 1) := by decide +kernel
theorem dX2_kindIsUp_72 : decode cX2_kindIsUp 72 = .ok (.iconst 2, 1) := by decide +kernel
theorem dX2_kindIsUp_73 : decode cX2_kindIsUp 73 = .ok (.irem, 1) := by decide +kernel
theorem dX2_kindIsUp_74 : decode cX2_kindIsUp 74 = .ok (.iconst 1, 1) := by decide +kernel
theorem dX2_kindIsUp_75 : decode cX2_kindIsUp 75 = .ok (.if_icmp .eq 9, 3) := by decide +kernel
theorem dX2_kindIsUp_78 : decode cX2_kindIsUp 78 = .ok (.iload_n 2, 1) := by decide +kernel
theorem dX2_kindIsUp_79 : decode cX2_kindIsUp 79 = .ok (.iconst 4, 1) := by decide +kernel
theorem dX2_kindIsUp_80 : decode cX2_kindIsUp 80 = .ok (.irem, 1) := by decide +kernel
theorem dX2_kindIsUp_81 : decode cX2_kindIsUp 81 = .ok (.ifCond .ne 7, 3) := by decide +kernel
theorem dX2_kindIsUp_84 : decode cX2_kindIsUp 84 = .ok (.iconst 1, 1) := by decide +kernel
theorem dX2_kindIsUp_85 : decode cX2_kindIsUp 85 = .ok (.goto 4, 3) := by decide +kernel
theorem dX2_kindIsUp_88 : decode cX2_kindIsUp 88 = .ok (.iconst 0, 1) := by decide +kernel
theorem dX2_kindIsUp_89 : decode cX2_kindIsUp 89 = .ok (.ireturn, 1) := by decide +kernel
theorem dX2_kindIsUp_90 : decode cX2_kindIsUp 90 = .ok (.iload_n 1, 1) := by decide +kernel
theorem dX2_kindIsUp_91 : decode cX2_kindIsUp 91 = .ok (.ifCond .ne 7, 3) := by decide +kernel
theorem dX2_kindIsUp_94 : decode cX2_kindIsUp 94 = .ok (.iconst 1, 1) := by decide +kernel
theorem dX2_kindIsUp_95 : decode cX2_kindIsUp 95 = .ok (.goto 4, 3) := by decide +kernel
theorem dX2_kindIsUp_98 : decode cX2_kindIsUp 98 = .ok (.iconst 0, 1) := by decide +kernel
theorem dX2_kindIsUp_99 : decode cX2_kindIsUp 99 = .ok (.ireturn, 1) := by decide +kernel
set_option maxRecDepth 20000 in
theorem ggX2_upFor_X2_hasSailed : GoodIn wsX2_upFor wsX2_hasSailed := goodIn_r _ [8, 9, 18, 19, 20, 21, 22, 23, 24, 25, 26, 27, 28] (by decide +kernel) (by decide +kernel)
set_option maxRecDepth 20000 in
theorem gX2_upFor_X2_hasSailed : GoodIn wsX2_upFor (wsV RX2 76 RX2 yX2_hasSailed wsX2_hasSailed) := goodIn_app (goodIn_of _ (by decide +kernel)) ggX2_upFor_X2_hasSailed
set_option maxRecDepth 20000 in
theorem ggX2_upFor_X2_isIll : GoodIn wsX2_upFor wsX2_isIll := goodIn_r _ [13, 14, 18, 19, 20, 21, 22, 23, 24, 25, 26, 27, 28] (by decide +kernel) (by decide +kernel)
set_option maxRecDepth 20000 in
theorem gX2_upFor_X2_isIll : GoodIn wsX2_upFor (wsV RX2 68 RX2 yX2_isIll wsX2_isIll) := goodIn_app (goodIn_of _ (by decide +kernel)) ggX2_upFor_X2_isIll
set_option maxRecDepth 20000 in
theorem ggX2_upFor_X2_kindIsUp : GoodIn wsX2_upFor wsX2_kindIsUp := goodIn_r _ [17] (by decide +kernel) (by decide +kernel)
set_option maxRecDepth 20000 in
theorem gX2_upFor_X2_kindIsUp : GoodIn wsX2_upFor (va_wsS RX2 72 yX2_kindIsUp wsX2_kindIsUp) := goodIn_app (goodIn_of _ (by decide +kernel)) ggX2_upFor_X2_kindIsUp
theorem dX2_upFor_0 : decode cX2_upFor 0 = .ok (.iload_n 2, 1) := by decide +kernel
theorem dX2_upFor_1 : decode cX2_upFor 1 = .ok (.ifCond .ne 13, 3) := by decide +kernel
theorem dX2_upFor_4 : decode cX2_upFor 4 = .ok (.aload_n 0, 1) := by decide +kernel
theorem dX2_upFor_5 : decode cX2_upFor 5 = .ok (.iload_n 1, 1) := by decide +kernel
theorem dX2_upFor_6 : decode cX2_upFor 6 = .ok (.invokevirtual 76, 3) := by decide +kernel
theorem dX2_upFor_9 : decode cX2_upFor 9 = .ok (.ifCond .eq 5, 3) := by decide +kernel
theorem dX2_upFor_12 : decode cX2_upFor 12 = .ok (.iconst 0, 1) := by decide +kernel
theorem dX2_upFor_13 : decode cX2_upFor 13 = .ok (.ireturn, 1) := by decide +kernel
theorem dX2_upFor_14 : decode cX2_upFor 14 = .ok (.aload_n 0, 1) := by decide +kernel
theorem dX2_upFor_15 : decode cX2_upFor 15 = .ok (.getfield 49, 3) := by decide +kernel
theorem dX2_upFor_18 : decode cX2_upFor 18 = .ok (.iload_n 2, 1) := by decide +kernel
theorem dX2_upFor_19 : decode cX2_upFor 19 = .ok (.iadd, 1) := by decide +kernel
theorem dX2_upFor_20 : decode cX2_upFor 20 = .ok (.istore_n 3, 1) := by decide +kernel
theorem dX2_upFor_21 : decode cX2_upFor 21 = .ok (.aload_n 0, 1) := by decide +kernel
theorem dX2_upFor_22 : decode cX2_upFor 22 = .ok (.getfield 52, 3) := by decide +kernel
theorem dX2_upFor_25 : decode cX2_upFor 25 = .ok (.ifCond .eq 16, 3) := by decide +kernel
theorem dX2_upFor_28 : decode cX2_upFor 28 = .ok (.iload_n 3, 1) := by decide +kernel
theorem dX2_upFor_29 : decode cX2_upFor 29 = .ok (.bipush 7, 2) := by decide +kernel
theorem dX2_upFor_31 : decode cX2_upFor 31 = .ok (.irem, 1) := by decide +kernel
theorem dX2_upFor_32 : decode cX2_upFor 32 = .ok (.iconst 3, 1) := by decide +kernel
theorem dX2_upFor_33 : decode cX2_upFor 33 = .ok (.if_icmp .ne 8, 3) := by decide +kernel
theorem dX2_upFor_36 : decode cX2_upFor 36 = .ok (.bipush 16, 2) := by decide +kernel
theorem dX2_upFor_38 : decode cX2_upFor 38 = .ok (.goto 4, 3) := by decide +kernel
theorem dX2_upFor_41 : decode cX2_upFor 41 = .ok (.iconst 0, 1) := by decide +kernel
theorem dX2_upFor_42 : decode cX2_upFor 42 = .ok (.istore 4, 2) := by decide +kernel
theorem dX2_upFor_44 : decode cX2_upFor 44 = .ok (.iconst 0, 1) := by decide +kernel
theorem dX2_upFor_45 : decode cX2_upFor 45 = .ok (.istore 5, 2) := by decide +kernel
theorem dX2_upFor_47 : decode cX2_upFor 47 = .ok (.iload 5, 2) := by decide +kernel
theorem dX2_upFor_49 : decode cX2_upFor 49 = .ok (.iconst 4, 1) := by decide +kernel
theorem dX2_upFor_50 : decode cX2_upFor 50 = .ok (.if_icmp .ge 39, 3) := by decide +kernel
theorem dX2_upFor_53 : decode cX2_upFor 53 = .ok (.aload_n 0, 1) := by decide +kernel
theorem dX2_upFor_54 : decode cX2_upFor 54 = .ok (.getfield 9, 3) := by decide +kernel
theorem dX2_upFor_57 : decode cX2_upFor 57 = .ok (.iload 5, 2) := by decide +kernel
theorem dX2_upFor_59 : decode cX2_upFor 59 = .ok (.iaload, 1) := by decide +kernel
theorem dX2_upFor_60 : decode cX2_upFor 60 = .ok (.aload_n 0, 1) := by decide +kernel
theorem dX2_upFor_61 : decode cX2_upFor 61 = .ok (.iload 5, 2) := by decide +kernel
theorem dX2_upFor_63 : decode cX2_upFor 63 = .ok (.iload_n 3, 1) := by decide +kernel
theorem dX2_upFor_64 : decode cX2_upFor 64 = .ok (.invokevirtual 68, 3) := by decide +kernel
theorem dX2_upFor_67 : decode cX2_upFor 67 = .ok (.iload_n 3, 1) := by decide +kernel
theorem dX2_upFor_68 : decode cX2_upFor 68 = .ok (.invokestatic 72, 3) := by decide +kernel
theorem dX2_upFor_71 : decode cX2_upFor 71 = .ok (.ifCond .eq 12, 3) := by decide +kernel
theorem dX2_upFor_74 : decode cX2_upFor 74 = .ok (.iload 4, 2) := by decide +kernel
theorem dX2_upFor_76 : decode cX2_upFor 76 = .ok (.iconst 1, 1) := by decide +kernel
theorem dX2_upFor_77 : decode cX2_upFor 77 = .ok (.iload 5, 2) := by decide +kernel
theorem dX2_upFor_79 : decode cX2_upFor 79 = .ok (.ishl, 1) := by decide +kernel
theorem dX2_upFor_80 : decode cX2_upFor 80 = .ok (.ior, 1) := by decide +kernel
theorem dX2_upFor_81 : decode cX2_upFor 81 = .ok (.istore 4, 2) := by decide +kernel
theorem dX2_upFor_83 : decode cX2_upFor 83 = .ok (.iinc 5 1, 3) := by decide +kernel
theorem dX2_upFor_86 : decode cX2_upFor 86 = .ok (.goto (-39), 3) := by decide +kernel
theorem dX2_upFor_89 : decode cX2_upFor 89 = .ok (.iload 4, 2) := by decide +kernel
theorem dX2_upFor_91 : decode cX2_upFor 91 = .ok (.ireturn, 1) := by decide +kernel
set_option maxRecDepth 20000 in
theorem ggX2_daysUp_X2_isUp : GoodIn wsX2_daysUp wsX2_isUp := goodIn_r _ [6, 7, 8, 9, 10, 5, 11, 12, 13, 14, 15, 16, 17, 18, 19, 20, 21, 22, 23, 24, 25, 26] (by decide +kernel) (by decide +kernel)
set_option maxRecDepth 20000 in
theorem gX2_daysUp_X2_isUp : GoodIn wsX2_daysUp (wsV RX2 80 RX2 yX2_isUp wsX2_isUp) := goodIn_app (goodIn_of _ (by decide +kernel)) ggX2_daysUp_X2_isUp
theorem dX2_daysUp_0 : decode cX2_daysUp 0 = .ok (.iconst 0, 1) := by decide +kernel
theorem dX2_daysUp_1 : decode cX2_daysUp 1 = .ok (.istore_n 3, 1) := by decide +kernel
theorem dX2_daysUp_2 : decode cX2_daysUp 2 = .ok (.iconst 0, 1) := by decide +kernel
theorem dX2_daysUp_3 : decode cX2_daysUp 3 = .ok (.istore 4, 2) := by decide +kernel
theorem dX2_daysUp_5 : decode cX2_daysUp 5 = .ok (.iload 4, 2) := by decide +kernel
theorem dX2_daysUp_7 : decode cX2_daysUp 7 = .ok (.iload_n 2, 1) := by decide +kernel
theorem dX2_daysUp_8 : decode cX2_daysUp 8 = .ok (.if_icmp .ge 27, 3) := by decide +kernel
theorem dX2_daysUp_11 : decode cX2_daysUp 11 = .ok (.aload_n 0, 1) := by decide +kernel
theorem dX2_daysUp_12 : decode cX2_daysUp 12 = .ok (.iload_n 1, 1) := by decide +kernel
theorem dX2_daysUp_13 : decode cX2_daysUp 13 = .ok (.aload_n 0, 1) := by decide +kernel
theorem dX2_daysUp_14 : decode cX2_daysUp 14 = .ok (.getfield 49, 3) := by decide +kernel
theorem dX2_daysUp_17 : decode cX2_daysUp 17 = .ok (.iload 4, 2) := by decide +kernel
theorem dX2_daysUp_19 : decode cX2_daysUp 19 = .ok (.iadd, 1) := by decide +kernel
theorem dX2_daysUp_20 : decode cX2_daysUp 20 = .ok (.invokevirtual 80, 3) := by decide +kernel
theorem dX2_daysUp_23 : decode cX2_daysUp 23 = .ok (.ifCond .eq 6, 3) := by decide +kernel
theorem dX2_daysUp_26 : decode cX2_daysUp 26 = .ok (.iinc 3 1, 3) := by decide +kernel
theorem dX2_daysUp_29 : decode cX2_daysUp 29 = .ok (.iinc 4 1, 3) := by decide +kernel
theorem dX2_daysUp_32 : decode cX2_daysUp 32 = .ok (.goto (-27), 3) := by decide +kernel
theorem dX2_daysUp_35 : decode cX2_daysUp 35 = .ok (.iload_n 3, 1) := by decide +kernel
theorem dX2_daysUp_36 : decode cX2_daysUp 36 = .ok (.ireturn, 1) := by decide +kernel
set_option maxRecDepth 20000 in
theorem ggX2_keepSeen_X5_asBit : GoodIn wsX2_keepSeen wsX5_asBit := goodIn_r _ [7] (by decide +kernel) (by decide +kernel)
set_option maxRecDepth 20000 in
theorem gX2_keepSeen_X5_asBit_n83 : GoodIn wsX2_keepSeen (wsX5_asBit) := ggX2_keepSeen_X5_asBit
theorem dX2_keepSeen_0 : decode cX2_keepSeen 0 = .ok (.aload_n 0, 1) := by decide +kernel
theorem dX2_keepSeen_1 : decode cX2_keepSeen 1 = .ok (.getfield 59, 3) := by decide +kernel
theorem dX2_keepSeen_4 : decode cX2_keepSeen 4 = .ok (.bipush 6, 2) := by decide +kernel
theorem dX2_keepSeen_6 : decode cX2_keepSeen 6 = .ok (.if_icmp .lt 5, 3) := by decide +kernel
theorem dX2_keepSeen_9 : decode cX2_keepSeen 9 = .ok (.iconst 0, 1) := by decide +kernel
theorem dX2_keepSeen_10 : decode cX2_keepSeen 10 = .ok (.ireturn, 1) := by decide +kernel
theorem dX2_keepSeen_11 : decode cX2_keepSeen 11 = .ok (.aload_n 0, 1) := by decide +kernel
theorem dX2_keepSeen_12 : decode cX2_keepSeen 12 = .ok (.getfield 21, 3) := by decide +kernel
theorem dX2_keepSeen_15 : decode cX2_keepSeen 15 = .ok (.aload_n 0, 1) := by decide +kernel
theorem dX2_keepSeen_16 : decode cX2_keepSeen 16 = .ok (.getfield 59, 3) := by decide +kernel
theorem dX2_keepSeen_19 : decode cX2_keepSeen 19 = .ok (.iload_n 1, 1) := by decide +kernel
theorem dX2_keepSeen_20 : decode cX2_keepSeen 20 = .ok (.iastore, 1) := by decide +kernel
theorem dX2_keepSeen_21 : decode cX2_keepSeen 21 = .ok (.aload_n 0, 1) := by decide +kernel
theorem dX2_keepSeen_22 : decode cX2_keepSeen 22 = .ok (.getfield 24, 3) := by decide +kernel
theorem dX2_keepSeen_25 : decode cX2_keepSeen 25 = .ok (.aload_n 0, 1) := by decide +kernel
theorem dX2_keepSeen_26 : decode cX2_keepSeen 26 = .ok (.getfield 59, 3) := by decide +kernel
theorem dX2_keepSeen_29 : decode cX2_keepSeen 29 = .ok (.iload_n 2, 1) := by decide +kernel
theorem dX2_keepSeen_30 : decode cX2_keepSeen 30 = .ok (.iastore, 1) := by decide +kernel
theorem dX2_keepSeen_31 : decode cX2_keepSeen 31 = .ok (.aload_n 0, 1) := by decide +kernel
theorem dX2_keepSeen_32 : decode cX2_keepSeen 32 = .ok (.getfield 27, 3) := by decide +kernel
theorem dX2_keepSeen_35 : decode cX2_keepSeen 35 = .ok (.aload_n 0, 1) := by decide +kernel
theorem dX2_keepSeen_36 : decode cX2_keepSeen 36 = .ok (.getfield 59, 3) := by decide +kernel
theorem dX2_keepSeen_39 : decode cX2_keepSeen 39 = .ok (.iload_n 3, 1) := by decide +kernel
theorem dX2_keepSeen_40 : decode cX2_keepSeen 40 = .ok (.invokestatic 83, 3) := by decide +kernel
theorem dX2_keepSeen_43 : decode cX2_keepSeen 43 = .ok (.iastore, 1) := by decide +kernel
theorem dX2_keepSeen_44 : decode cX2_keepSeen 44 = .ok (.aload_n 0, 1) := by decide +kernel
theorem dX2_keepSeen_45 : decode cX2_keepSeen 45 = .ok (.dup, 1) := by decide +kernel
theorem dX2_keepSeen_46 : decode cX2_keepSeen 46 = .ok (.getfield 59, 3) := by decide +kernel
theorem dX2_keepSeen_49 : decode cX2_keepSeen 49 = .ok (.iconst 1, 1) := by decide +kernel
theorem dX2_keepSeen_50 : decode cX2_keepSeen 50 = .ok (.iadd, 1) := by decide +kernel
theorem dX2_keepSeen_51 : decode cX2_keepSeen 51 = .ok (.putfield 59, 3) := by decide +kernel
theorem dX2_keepSeen_54 : decode cX2_keepSeen 54 = .ok (.iconst 1, 1) := by decide +kernel
theorem dX2_keepSeen_55 : decode cX2_keepSeen 55 = .ok (.ireturn, 1) := by decide +kernel
set_option maxRecDepth 20000 in
theorem ggX2_kindsFitting_X2_kindsUp : GoodIn wsX2_kindsFitting wsX2_kindsUp := goodIn_r _ [9, 10, 11, 12, 13, 8, 14, 15, 16, 17, 18, 19, 20, 21, 22, 23, 24, 25, 26, 27, 28, 29] (by decide +kernel) (by decide +kernel)
set_option maxRecDepth 20000 in
theorem gX2_kindsFitting_X2_kindsUp : GoodIn wsX2_kindsFitting (wsV RX2 87 RX2 yX2_kindsUp wsX2_kindsUp) := goodIn_app (goodIn_of _ (by decide +kernel)) ggX2_kindsFitting_X2_kindsUp
theorem dX2_kindsFitting_0 : decode cX2_kindsFitting 0 = .ok (.bipush 31, 2) := by decide +kernel
theorem dX2_kindsFitting_2 : decode cX2_kindsFitting 2 = .ok (.istore_n 2, 1) := by decide +kernel
theorem dX2_kindsFitting_3 : decode cX2_kindsFitting 3 = .ok (.iconst 0, 1) := by decide +kernel
theorem dX2_kindsFitting_4 : decode cX2_kindsFitting 4 = .ok (.istore_n 3, 1) := by decide +kernel
theorem dX2_kindsFitting_5 : decode cX2_kindsFitting 5 = .ok (.iload_n 3, 1) := by decide +kernel
theorem dX2_kindsFitting_6 : decode cX2_kindsFitting 6 = .ok (.aload_n 0, 1) := by decide +kernel
theorem dX2_kindsFitting_7 : decode cX2_kindsFitting 7 = .ok (.getfield 59, 3) := by decide +kernel
theorem dX2_kindsFitting_10 : decode cX2_kindsFitting 10 = .ok (.if_icmp .ge 54, 3) := by decide +kernel
theorem dX2_kindsFitting_13 : decode cX2_kindsFitting 13 = .ok (.aload_n 0, 1) := by decide +kernel
theorem dX2_kindsFitting_14 : decode cX2_kindsFitting 14 = .ok (.getfield 21, 3) := by decide +kernel
theorem dX2_kindsFitting_17 : decode cX2_kindsFitting 17 = .ok (.iload_n 3, 1) := by decide +kernel
theorem dX2_kindsFitting_18 : decode cX2_kindsFitting 18 = .ok (.iaload, 1) := by decide +kernel
theorem dX2_kindsFitting_19 : decode cX2_kindsFitting 19 = .ok (.iload_n 1, 1) := by decide +kernel
theorem dX2_kindsFitting_20 : decode cX2_kindsFitting 20 = .ok (.if_icmp .ne 38, 3) := by decide +kernel
theorem dX2_kindsFitting_23 : decode cX2_kindsFitting 23 = .ok (.aload_n 0, 1) := by decide +kernel
theorem dX2_kindsFitting_24 : decode cX2_kindsFitting 24 = .ok (.iload_n 1, 1) := by decide +kernel
theorem dX2_kindsFitting_25 : decode cX2_kindsFitting 25 = .ok (.aload_n 0, 1) := by decide +kernel
theorem dX2_kindsFitting_26 : decode cX2_kindsFitting 26 = .ok (.getfield 24, 3) := by decide +kernel
theorem dX2_kindsFitting_29 : decode cX2_kindsFitting 29 = .ok (.iload_n 3, 1) := by decide +kernel
theorem dX2_kindsFitting_30 : decode cX2_kindsFitting 30 = .ok (.iaload, 1) := by decide +kernel
theorem dX2_kindsFitting_31 : decode cX2_kindsFitting 31 = .ok (.invokevirtual 87, 3) := by decide +kernel
theorem dX2_kindsFitting_34 : decode cX2_kindsFitting 34 = .ok (.istore 4, 2) := by decide +kernel
theorem dX2_kindsFitting_36 : decode cX2_kindsFitting 36 = .ok (.iload_n 2, 1) := by decide +kernel
theorem dX2_kindsFitting_37 : decode cX2_kindsFitting 37 = .ok (.aload_n 0, 1) := by decide +kernel
theorem dX2_kindsFitting_38 : decode cX2_kindsFitting 38 = .ok (.getfield 27, 3) := by decide +kernel
theorem dX2_kindsFitting_41 : decode cX2_kindsFitting 41 = .ok (.iload_n 3, 1) := by decide +kernel
theorem dX2_kindsFitting_42 : decode cX2_kindsFitting 42 = .ok (.iaload, 1) := by decide +kernel
theorem dX2_kindsFitting_43 : decode cX2_kindsFitting 43 = .ok (.iconst 1, 1) := by decide +kernel
theorem dX2_kindsFitting_44 : decode cX2_kindsFitting 44 = .ok (.if_icmp .ne 8, 3) := by decide +kernel
theorem dX2_kindsFitting_47 : decode cX2_kindsFitting 47 = .ok (.iload 4, 2) := by decide +kernel
theorem dX2_kindsFitting_49 : decode cX2_kindsFitting 49 = .ok (.goto 7, 3) := by decide +kernel
theorem dX2_kindsFitting_52 : decode cX2_kindsFitting 52 = .ok (.iload 4, 2) := by decide +kernel
theorem dX2_kindsFitting_54 : decode cX2_kindsFitting 54 = .ok (.iconst (-1), 1) := by decide +kernel
theorem dX2_kindsFitting_55 : decode cX2_kindsFitting 55 = .ok (.ixor, 1) := by decide +kernel
theorem dX2_kindsFitting_56 : decode cX2_kindsFitting 56 = .ok (.iand, 1) := by decide +kernel
theorem dX2_kindsFitting_57 : decode cX2_kindsFitting 57 = .ok (.istore_n 2, 1) := by decide +kernel
theorem dX2_kindsFitting_58 : decode cX2_kindsFitting 58 = .ok (.iinc 3 1, 3) := by decide +kernel
theorem dX2_kindsFitting_61 : decode cX2_kindsFitting 61 = .ok (.goto (-56), 3) := by decide +kernel
theorem dX2_kindsFitting_64 : decode cX2_kindsFitting 64 = .ok (.iload_n 2, 1) := by decide +kernel
theorem dX2_kindsFitting_65 : decode cX2_kindsFitting 65 = .ok (.ireturn, 1) := by decide +kernel
set_option maxRecDepth 20000 in
theorem ggX2_kindsUp_X2_isIll : GoodIn wsX2_kindsUp wsX2_isIll := goodIn_r _ [6, 7, 11, 12, 13, 14, 15, 16, 17, 18, 19, 20, 21] (by decide +kernel) (by decide +kernel)
set_option maxRecDepth 20000 in
theorem gX2_kindsUp_X2_isIll : GoodIn wsX2_kindsUp (wsV RX2 68 RX2 yX2_isIll wsX2_isIll) := goodIn_app (goodIn_of _ (by decide +kernel)) ggX2_kindsUp_X2_isIll
set_option maxRecDepth 20000 in
theorem ggX2_kindsUp_X2_kindIsUp : GoodIn wsX2_kindsUp wsX2_kindIsUp := goodIn_r _ [10] (by decide +kernel) (by decide +kernel)
set_option maxRecDepth 20000 in
theorem gX2_kindsUp_X2_kindIsUp : GoodIn wsX2_kindsUp (va_wsS RX2 72 yX2_kindIsUp wsX2_kindIsUp) := goodIn_app (goodIn_of _ (by decide +kernel)) ggX2_kindsUp_X2_kindIsUp
theorem dX2_kindsUp_0 : decode cX2_kindsUp 0 = .ok (.aload_n 0, 1) := by decide +kernel
theorem dX2_kindsUp_1 : decode cX2_kindsUp 1 = .ok (.getfield 49, 3) := by decide +kernel
theorem dX2_kindsUp_4 : decode cX2_kindsUp 4 = .ok (.iload_n 2, 1) := by decide +kernel
theorem dX2_kindsUp_5 : decode cX2_kindsUp 5 = .ok (.iadd, 1) := by decide +kernel
theorem dX2_kindsUp_6 : decode cX2_kindsUp 6 = .ok (.istore_n 3, 1) := by decide +kernel
theorem dX2_kindsUp_7 : decode cX2_kindsUp 7 = .ok (.aload_n 0, 1) := by decide +kernel
theorem dX2_kindsUp_8 : decode cX2_kindsUp 8 = .ok (.iload_n 1, 1) := by decide +kernel
theorem dX2_kindsUp_9 : decode cX2_kindsUp 9 = .ok (.iload_n 3, 1) := by decide +kernel
theorem dX2_kindsUp_10 : decode cX2_kindsUp 10 = .ok (.invokevirtual 68, 3) := by decide +kernel
theorem dX2_kindsUp_13 : decode cX2_kindsUp 13 = .ok (.istore 4, 2) := by decide +kernel
theorem dX2_kindsUp_15 : decode cX2_kindsUp 15 = .ok (.iconst 0, 1) := by decide +kernel
theorem dX2_kindsUp_16 : decode cX2_kindsUp 16 = .ok (.istore 5, 2) := by decide +kernel
theorem dX2_kindsUp_18 : decode cX2_kindsUp 18 = .ok (.iconst 0, 1) := by decide +kernel
theorem dX2_kindsUp_19 : decode cX2_kindsUp 19 = .ok (.istore 6, 2) := by decide +kernel
theorem dX2_kindsUp_21 : decode cX2_kindsUp 21 = .ok (.iload 6, 2) := by decide +kernel
theorem dX2_kindsUp_23 : decode cX2_kindsUp 23 = .ok (.iconst 5, 1) := by decide +kernel
theorem dX2_kindsUp_24 : decode cX2_kindsUp 24 = .ok (.if_icmp .ge 29, 3) := by decide +kernel
theorem dX2_kindsUp_27 : decode cX2_kindsUp 27 = .ok (.iload 6, 2) := by decide +kernel
theorem dX2_kindsUp_29 : decode cX2_kindsUp 29 = .ok (.iload 4, 2) := by decide +kernel
theorem dX2_kindsUp_31 : decode cX2_kindsUp 31 = .ok (.iload_n 3, 1) := by decide +kernel
theorem dX2_kindsUp_32 : decode cX2_kindsUp 32 = .ok (.invokestatic 72, 3) := by decide +kernel
theorem dX2_kindsUp_35 : decode cX2_kindsUp 35 = .ok (.ifCond .eq 12, 3) := by decide +kernel
theorem dX2_kindsUp_38 : decode cX2_kindsUp 38 = .ok (.iload 5, 2) := by decide +kernel
theorem dX2_kindsUp_40 : decode cX2_kindsUp 40 = .ok (.iconst 1, 1) := by decide +kernel
theorem dX2_kindsUp_41 : decode cX2_kindsUp 41 = .ok (.iload 6, 2) := by decide +kernel
theorem dX2_kindsUp_43 : decode cX2_kindsUp 43 = .ok (.ishl, 1) := by decide +kernel
theorem dX2_kindsUp_44 : decode cX2_kindsUp 44 = .ok (.ior, 1) := by decide +kernel
theorem dX2_kindsUp_45 : decode cX2_kindsUp 45 = .ok (.istore 5, 2) := by decide +kernel
theorem dX2_kindsUp_47 : decode cX2_kindsUp 47 = .ok (.iinc 6 1, 3) := by decide +kernel
theorem dX2_kindsUp_50 : decode cX2_kindsUp 50 = .ok (.goto (-29), 3) := by decide +kernel
theorem dX2_kindsUp_53 : decode cX2_kindsUp 53 = .ok (.iload 5, 2) := by decide +kernel
theorem dX2_kindsUp_55 : decode cX2_kindsUp 55 = .ok (.ireturn, 1) := by decide +kernel
set_option maxRecDepth 20000 in
theorem ggX2_whenToLook_X2_kindsFitting : GoodIn wsX2_whenToLook wsX2_kindsFitting := goodIn_r _ [9, 10, 11, 12, 13, 14, 15, 16, 8, 17, 18, 19, 20, 21, 22, 23, 24, 25, 26, 34, 35, 36, 37, 38, 39, 40, 41, 42, 43, 44] (by decide +kernel) (by decide +kernel)
set_option maxRecDepth 20000 in
theorem gX2_whenToLook_X2_kindsFitting : GoodIn wsX2_whenToLook (wsV RX2 90 RX2 yX2_kindsFitting wsX2_kindsFitting) := goodIn_app (goodIn_of _ (by decide +kernel)) ggX2_whenToLook_X2_kindsFitting
set_option maxRecDepth 20000 in
theorem ggX2_whenToLook_X2_kindsUp : GoodIn wsX2_whenToLook wsX2_kindsUp := goodIn_r _ [17, 18, 19, 20, 21, 8, 22, 23, 24, 25, 26, 34, 35, 36, 37, 38, 39, 40, 41, 42, 43, 44] (by decide +kernel) (by decide +kernel)
set_option maxRecDepth 20000 in
theorem gX2_whenToLook_X2_kindsUp : GoodIn wsX2_whenToLook (wsV RX2 87 RX2 yX2_kindsUp wsX2_kindsUp) := goodIn_app (goodIn_of _ (by decide +kernel)) ggX2_whenToLook_X2_kindsUp
set_option maxRecDepth 20000 in
theorem ggX2_whenToLook_J6_bitCount_0f7a4 : GoodIn wsX2_whenToLook wsJ6_bitCount_0f7a4 := goodIn_r _ [30, 31, 32, 33] (by decide +kernel) (by decide +kernel)
set_option maxRecDepth 20000 in
theorem gX2_whenToLook_J6_bitCount_0f7a4 : GoodIn wsX2_whenToLook (va_wsS RX2 94 yJ6_bitCount_0f7a4 wsJ6_bitCount_0f7a4) := goodIn_app (goodIn_of _ (by decide +kernel)) ggX2_whenToLook_J6_bitCount_0f7a4
theorem dX2_whenToLook_0 : decode cX2_whenToLook 0 = .ok (.aload_n 0, 1) := by decide +kernel
theorem dX2_whenToLook_1 : decode cX2_whenToLook 1 = .ok (.iload_n 1, 1) := by decide +kernel
theorem dX2_whenToLook_2 : decode cX2_whenToLook 2 = .ok (.invokevirtual 90, 3) := by decide +kernel
theorem dX2_whenToLook_5 : decode cX2_whenToLook 5 = .ok (.istore_n 2, 1) := by decide +kernel
theorem dX2_whenToLook_6 : decode cX2_whenToLook 6 = .ok (.iload_n 2, 1) := by decide +kernel
theorem dX2_whenToLook_7 : decode cX2_whenToLook 7 = .ok (.ifCond .ne 5, 3) := by decide +kernel
theorem dX2_whenToLook_10 : decode cX2_whenToLook 10 = .ok (.iconst (-1), 1) := by decide +kernel
theorem dX2_whenToLook_11 : decode cX2_whenToLook 11 = .ok (.ireturn, 1) := by decide +kernel
theorem dX2_whenToLook_12 : decode cX2_whenToLook 12 = .ok (.iconst (-1), 1) := by decide +kernel
theorem dX2_whenToLook_13 : decode cX2_whenToLook 13 = .ok (.istore_n 3, 1) := by decide +kernel
theorem dX2_whenToLook_14 : decode cX2_whenToLook 14 = .ok (.bipush 6, 2) := by decide +kernel
theorem dX2_whenToLook_16 : decode cX2_whenToLook 16 = .ok (.istore 4, 2) := by decide +kernel
theorem dX2_whenToLook_18 : decode cX2_whenToLook 18 = .ok (.iconst 0, 1) := by decide +kernel
theorem dX2_whenToLook_19 : decode cX2_whenToLook 19 = .ok (.istore 5, 2) := by decide +kernel
theorem dX2_whenToLook_21 : decode cX2_whenToLook 21 = .ok (.iload 5, 2) := by decide +kernel
theorem dX2_whenToLook_23 : decode cX2_whenToLook 23 = .ok (.bipush 20, 2) := by decide +kernel
theorem dX2_whenToLook_25 : decode cX2_whenToLook 25 = .ok (.if_icmp .gt 53, 3) := by decide +kernel
theorem dX2_whenToLook_28 : decode cX2_whenToLook 28 = .ok (.aload_n 0, 1) := by decide +kernel
theorem dX2_whenToLook_29 : decode cX2_whenToLook 29 = .ok (.iload_n 1, 1) := by decide +kernel
theorem dX2_whenToLook_30 : decode cX2_whenToLook 30 = .ok (.iload 5, 2) := by decide +kernel
theorem dX2_whenToLook_32 : decode cX2_whenToLook 32 = .ok (.invokevirtual 87, 3) := by decide +kernel
theorem dX2_whenToLook_35 : decode cX2_whenToLook 35 = .ok (.istore 6, 2) := by decide +kernel
theorem dX2_whenToLook_37 : decode cX2_whenToLook 37 = .ok (.iload_n 2, 1) := by decide +kernel
theorem dX2_whenToLook_38 : decode cX2_whenToLook 38 = .ok (.iload 6, 2) := by decide +kernel
theorem dX2_whenToLook_40 : decode cX2_whenToLook 40 = .ok (.iand, 1) := by decide +kernel
theorem dX2_whenToLook_41 : decode cX2_whenToLook 41 = .ok (.invokestatic 94, 3) := by decide +kernel
theorem dX2_whenToLook_44 : decode cX2_whenToLook 44 = .ok (.iload_n 2, 1) := by decide +kernel
theorem dX2_whenToLook_45 : decode cX2_whenToLook 45 = .ok (.iload 6, 2) := by decide +kernel
theorem dX2_whenToLook_47 : decode cX2_whenToLook 47 = .ok (.iconst (-1), 1) := by decide +kernel
theorem dX2_whenToLook_48 : decode cX2_whenToLook 48 = .ok (.ixor, 1) := by decide +kernel
theorem dX2_whenToLook_49 : decode cX2_whenToLook 49 = .ok (.iand, 1) := by decide +kernel
theorem dX2_whenToLook_50 : decode cX2_whenToLook 50 = .ok (.invokestatic 94, 3) := by decide +kernel
theorem dX2_whenToLook_53 : decode cX2_whenToLook 53 = .ok (.invokestatic 62, 3) := by decide +kernel
theorem dX2_whenToLook_56 : decode cX2_whenToLook 56 = .ok (.istore 7, 2) := by decide +kernel
theorem dX2_whenToLook_58 : decode cX2_whenToLook 58 = .ok (.iload 7, 2) := by decide +kernel
theorem dX2_whenToLook_60 : decode cX2_whenToLook 60 = .ok (.iload 4, 2) := by decide +kernel
theorem dX2_whenToLook_62 : decode cX2_whenToLook 62 = .ok (.if_icmp .ge 10, 3) := by decide +kernel
theorem dX2_whenToLook_65 : decode cX2_whenToLook 65 = .ok (.iload 7, 2) := by decide +kernel
theorem dX2_whenToLook_67 : decode cX2_whenToLook 67 = .ok (.istore 4, 2) := by decide +kernel
theorem dX2_whenToLook_69 : decode cX2_whenToLook 69 = .ok (.iload 5, 2) := by decide +kernel
theorem dX2_whenToLook_71 : decode cX2_whenToLook 71 = .ok (.istore_n 3, 1) := by decide +kernel
theorem dX2_whenToLook_72 : decode cX2_whenToLook 72 = .ok (.iinc 5 1, 3) := by decide +kernel
theorem dX2_whenToLook_75 : decode cX2_whenToLook 75 = .ok (.goto (-54), 3) := by decide +kernel
theorem dX2_whenToLook_78 : decode cX2_whenToLook 78 = .ok (.iload_n 3, 1) := by decide +kernel
theorem dX2_whenToLook_79 : decode cX2_whenToLook 79 = .ok (.ireturn, 1) := by decide +kernel
theorem dX3_init_0 : decode cX3_init 0 = .ok (.aload_n 0, 1) := by decide +kernel
theorem dX3_init_1 : decode cX3_init 1 = .ok (.invokespecial 3, 3) := by decide +kernel
theorem dX3_init_4 : decode cX3_init 4 = .ok (.aload_n 0, 1) := by decide +kernel
theorem dX3_init_5 : decode cX3_init 5 = .ok (.bipush 40, 2) := by decide +kernel
theorem dX3_init_7 : decode cX3_init 7 = .ok (.newarray .int, 2) := by decide +kernel
theorem dX3_init_9 : decode cX3_init 9 = .ok (.putfield 9, 3) := by decide +kernel
theorem dX3_init_12 : decode cX3_init 12 = .ok (.aload_n 0, 1) := by decide +kernel
theorem dX3_init_13 : decode cX3_init 13 = .ok (.iconst 0, 1) := by decide +kernel
theorem dX3_init_14 : decode cX3_init 14 = .ok (.putfield 15, 3) := by decide +kernel
theorem dX3_init_17 : decode cX3_init 17 = .ok (.return_, 1) := by decide +kernel
theorem dX3_append_0 : decode cX3_append 0 = .ok (.aload_n 0, 1) := by decide +kernel
theorem dX3_append_1 : decode cX3_append 1 = .ok (.getfield 15, 3) := by decide +kernel
theorem dX3_append_4 : decode cX3_append 4 = .ok (.bipush 40, 2) := by decide +kernel
theorem dX3_append_6 : decode cX3_append 6 = .ok (.if_icmp .lt 5, 3) := by decide +kernel
theorem dX3_append_9 : decode cX3_append 9 = .ok (.iconst 0, 1) := by decide +kernel
theorem dX3_append_10 : decode cX3_append 10 = .ok (.ireturn, 1) := by decide +kernel
theorem dX3_append_11 : decode cX3_append 11 = .ok (.aload_n 0, 1) := by decide +kernel
theorem dX3_append_12 : decode cX3_append 12 = .ok (.getfield 9, 3) := by decide +kernel
theorem dX3_append_15 : decode cX3_append 15 = .ok (.aload_n 0, 1) := by decide +kernel
theorem dX3_append_16 : decode cX3_append 16 = .ok (.getfield 15, 3) := by decide +kernel
theorem dX3_append_19 : decode cX3_append 19 = .ok (.iload_n 1, 1) := by decide +kernel
theorem dX3_append_20 : decode cX3_append 20 = .ok (.iastore, 1) := by decide +kernel
theorem dX3_append_21 : decode cX3_append 21 = .ok (.aload_n 0, 1) := by decide +kernel
theorem dX3_append_22 : decode cX3_append 22 = .ok (.dup, 1) := by decide +kernel
theorem dX3_append_23 : decode cX3_append 23 = .ok (.getfield 15, 3) := by decide +kernel
theorem dX3_append_26 : decode cX3_append 26 = .ok (.iconst 1, 1) := by decide +kernel
theorem dX3_append_27 : decode cX3_append 27 = .ok (.iadd, 1) := by decide +kernel
theorem dX3_append_28 : decode cX3_append 28 = .ok (.putfield 15, 3) := by decide +kernel
theorem dX3_append_31 : decode cX3_append 31 = .ok (.iconst 1, 1) := by decide +kernel
theorem dX3_append_32 : decode cX3_append 32 = .ok (.ireturn, 1) := by decide +kernel
theorem dX3_empty_0 : decode cX3_empty 0 = .ok (.aload_n 0, 1) := by decide +kernel
theorem dX3_empty_1 : decode cX3_empty 1 = .ok (.getfield 15, 3) := by decide +kernel
theorem dX3_empty_4 : decode cX3_empty 4 = .ok (.istore_n 1, 1) := by decide +kernel
theorem dX3_empty_5 : decode cX3_empty 5 = .ok (.aload_n 0, 1) := by decide +kernel
theorem dX3_empty_6 : decode cX3_empty 6 = .ok (.iconst 0, 1) := by decide +kernel
theorem dX3_empty_7 : decode cX3_empty 7 = .ok (.putfield 15, 3) := by decide +kernel
theorem dX3_empty_10 : decode cX3_empty 10 = .ok (.iload_n 1, 1) := by decide +kernel
theorem dX3_empty_11 : decode cX3_empty 11 = .ok (.ireturn, 1) := by decide +kernel
set_option maxRecDepth 20000 in
theorem ggX4_init_X0_init : GoodIn wsX4_init wsX0_init := goodIn_r _ [12, 13, 2, 3, 14, 15, 16, 17, 18, 19, 20, 21] (by decide +kernel) (by decide +kernel)
set_option maxRecDepth 20000 in
theorem gX4_init_X0_init : GoodIn wsX4_init (wsX0_init) := ggX4_init_X0_init
theorem dX4_init_0 : decode cX4_init 0 = .ok (.aload_n 0, 1) := by decide +kernel
theorem dX4_init_1 : decode cX4_init 1 = .ok (.invokespecial 3, 3) := by decide +kernel
theorem dX4_init_4 : decode cX4_init 4 = .ok (.aload_n 0, 1) := by decide +kernel
theorem dX4_init_5 : decode cX4_init 5 = .ok (.new 9, 3) := by decide +kernel
theorem dX4_init_8 : decode cX4_init 8 = .ok (.dup, 1) := by decide +kernel
theorem dX4_init_9 : decode cX4_init 9 = .ok (.invokespecial 11, 3) := by decide +kernel
theorem dX4_init_12 : decode cX4_init 12 = .ok (.putfield 12, 3) := by decide +kernel
theorem dX4_init_15 : decode cX4_init 15 = .ok (.aload_n 0, 1) := by decide +kernel
theorem dX4_init_16 : decode cX4_init 16 = .ok (.bipush 42, 2) := by decide +kernel
theorem dX4_init_18 : decode cX4_init 18 = .ok (.newarray .long, 2) := by decide +kernel
theorem dX4_init_20 : decode cX4_init 20 = .ok (.putfield 18, 3) := by decide +kernel
theorem dX4_init_23 : decode cX4_init 23 = .ok (.return_, 1) := by decide +kernel
set_option maxRecDepth 20000 in
theorem ggX4_mayBits_X2_upFor : GoodIn wsX4_mayBits wsX2_upFor := goodIn_r _ [7, 8, 9, 10, 11, 12, 13, 6, 14, 15, 16, 17, 18, 19, 20, 21, 22, 23, 39, 40, 41, 42, 43, 44, 45, 46, 47, 48, 49] (by decide +kernel) (by decide +kernel)
set_option maxRecDepth 20000 in
theorem gX4_mayBits_X2_upFor : GoodIn wsX4_mayBits (wsV RX4 22 RX2 yX2_upFor wsX2_upFor) := goodIn_app (goodIn_of _ (by decide +kernel)) ggX4_mayBits_X2_upFor
set_option maxRecDepth 20000 in
theorem ggX4_mayBits_X0_landing : GoodIn wsX4_mayBits wsX0_landing := goodIn_r _ [28, 29, 30, 31, 32, 27, 33, 34, 35, 36, 50, 51, 52, 53] (by decide +kernel) (by decide +kernel)
set_option maxRecDepth 20000 in
theorem gX4_mayBits_X0_landing : GoodIn wsX4_mayBits (wsV RX4 32 RX0 yX0_landing wsX0_landing) := goodIn_app (goodIn_of _ (by decide +kernel)) ggX4_mayBits_X0_landing
theorem dX4_mayBits_0 : decode cX4_mayBits 0 = .ok (.aload_n 1, 1) := by decide +kernel
theorem dX4_mayBits_1 : decode cX4_mayBits 1 = .ok (.iload_n 2, 1) := by decide +kernel
theorem dX4_mayBits_2 : decode cX4_mayBits 2 = .ok (.iconst 0, 1) := by decide +kernel
theorem dX4_mayBits_3 : decode cX4_mayBits 3 = .ok (.invokevirtual 22, 3) := by decide +kernel
theorem dX4_mayBits_6 : decode cX4_mayBits 6 = .ok (.istore_n 3, 1) := by decide +kernel
theorem dX4_mayBits_7 : decode cX4_mayBits 7 = .ok (.iconst 0, 1) := by decide +kernel
theorem dX4_mayBits_8 : decode cX4_mayBits 8 = .ok (.istore 4, 2) := by decide +kernel
theorem dX4_mayBits_10 : decode cX4_mayBits 10 = .ok (.iconst 0, 1) := by decide +kernel
theorem dX4_mayBits_11 : decode cX4_mayBits 11 = .ok (.istore 5, 2) := by decide +kernel
theorem dX4_mayBits_13 : decode cX4_mayBits 13 = .ok (.iload 5, 2) := by decide +kernel
theorem dX4_mayBits_15 : decode cX4_mayBits 15 = .ok (.iconst 4, 1) := by decide +kernel
theorem dX4_mayBits_16 : decode cX4_mayBits 16 = .ok (.if_icmp .gt 46, 3) := by decide +kernel
theorem dX4_mayBits_19 : decode cX4_mayBits 19 = .ok (.iload_n 3, 1) := by decide +kernel
theorem dX4_mayBits_20 : decode cX4_mayBits 20 = .ok (.iload 5, 2) := by decide +kernel
theorem dX4_mayBits_22 : decode cX4_mayBits 22 = .ok (.ishr, 1) := by decide +kernel
theorem dX4_mayBits_23 : decode cX4_mayBits 23 = .ok (.iconst 1, 1) := by decide +kernel
theorem dX4_mayBits_24 : decode cX4_mayBits 24 = .ok (.iand, 1) := by decide +kernel
theorem dX4_mayBits_25 : decode cX4_mayBits 25 = .ok (.ifCond .eq 31, 3) := by decide +kernel
theorem dX4_mayBits_28 : decode cX4_mayBits 28 = .ok (.aload_n 0, 1) := by decide +kernel
theorem dX4_mayBits_29 : decode cX4_mayBits 29 = .ok (.getfield 12, 3) := by decide +kernel
theorem dX4_mayBits_32 : decode cX4_mayBits 32 = .ok (.aload_n 1, 1) := by decide +kernel
theorem dX4_mayBits_33 : decode cX4_mayBits 33 = .ok (.getfield 28, 3) := by decide +kernel
theorem dX4_mayBits_36 : decode cX4_mayBits 36 = .ok (.iload_n 2, 1) := by decide +kernel
theorem dX4_mayBits_37 : decode cX4_mayBits 37 = .ok (.iaload, 1) := by decide +kernel
theorem dX4_mayBits_38 : decode cX4_mayBits 38 = .ok (.iload 5, 2) := by decide +kernel
theorem dX4_mayBits_40 : decode cX4_mayBits 40 = .ok (.invokevirtual 32, 3) := by decide +kernel
theorem dX4_mayBits_43 : decode cX4_mayBits 43 = .ok (.iconst (-1), 1) := by decide +kernel
theorem dX4_mayBits_44 : decode cX4_mayBits 44 = .ok (.if_icmp .eq 12, 3) := by decide +kernel
theorem dX4_mayBits_47 : decode cX4_mayBits 47 = .ok (.iload 4, 2) := by decide +kernel
theorem dX4_mayBits_49 : decode cX4_mayBits 49 = .ok (.iconst 1, 1) := by decide +kernel
theorem dX4_mayBits_50 : decode cX4_mayBits 50 = .ok (.iload 5, 2) := by decide +kernel
theorem dX4_mayBits_52 : decode cX4_mayBits 52 = .ok (.ishl, 1) := by decide +kernel
theorem dX4_mayBits_53 : decode cX4_mayBits 53 = .ok (.ior, 1) := by decide +kernel
theorem dX4_mayBits_54 : decode cX4_mayBits 54 = .ok (.istore 4, 2) := by decide +kernel
theorem dX4_mayBits_56 : decode cX4_mayBits 56 = .ok (.iinc 5 1, 3) := by decide +kernel
theorem dX4_mayBits_59 : decode cX4_mayBits 59 = .ok (.goto (-46), 3) := by decide +kernel
theorem dX4_mayBits_62 : decode cX4_mayBits 62 = .ok (.iload 4, 2) := by decide +kernel
theorem dX4_mayBits_64 : decode cX4_mayBits 64 = .ok (.ireturn, 1) := by decide +kernel
set_option maxRecDepth 20000 in
theorem ggX4_placesAfter_X2_upFor : GoodIn wsX4_placesAfter wsX2_upFor := goodIn_r _ [7, 8, 9, 10, 11, 12, 13, 6, 14, 15, 16, 17, 18, 19, 20, 21, 22, 23, 37, 38, 39, 40, 41, 42, 43, 44, 45, 46, 47] (by decide +kernel) (by decide +kernel)
set_option maxRecDepth 20000 in
theorem gX4_placesAfter_X2_upFor : GoodIn wsX4_placesAfter (wsV RX4 22 RX2 yX2_upFor wsX2_upFor) := goodIn_app (goodIn_of _ (by decide +kernel)) ggX4_placesAfter_X2_upFor
set_option maxRecDepth 20000 in
theorem ggX4_placesAfter_X0_spread : GoodIn wsX4_placesAfter wsX0_spread := goodIn_r _ [28, 29, 30, 31, 27, 32, 33, 34, 35, 36, 50, 51, 52, 53] (by decide +kernel) (by decide +kernel)
set_option maxRecDepth 20000 in
theorem gX4_placesAfter_X0_spread : GoodIn wsX4_placesAfter (wsV RX4 35 RX0 yX0_spread wsX0_spread) := goodIn_app (goodIn_of _ (by decide +kernel)) ggX4_placesAfter_X0_spread
theorem dX4_placesAfter_0 : decode cX4_placesAfter 0 = .ok (.lconst 1, 1) := by decide +kernel
theorem dX4_placesAfter_1 : decode cX4_placesAfter 1 = .ok (.aload_n 1, 1) := by decide +kernel
theorem dX4_placesAfter_2 : decode cX4_placesAfter 2 = .ok (.getfield 28, 3) := by decide +kernel
theorem dX4_placesAfter_5 : decode cX4_placesAfter 5 = .ok (.iload_n 2, 1) := by decide +kernel
theorem dX4_placesAfter_6 : decode cX4_placesAfter 6 = .ok (.iaload, 1) := by decide +kernel
theorem dX4_placesAfter_7 : decode cX4_placesAfter 7 = .ok (.lshl, 1) := by decide +kernel
theorem dX4_placesAfter_8 : decode cX4_placesAfter 8 = .ok (.lstore 4, 2) := by decide +kernel
theorem dX4_placesAfter_10 : decode cX4_placesAfter 10 = .ok (.iconst 0, 1) := by decide +kernel
theorem dX4_placesAfter_11 : decode cX4_placesAfter 11 = .ok (.istore 6, 2) := by decide +kernel
theorem dX4_placesAfter_13 : decode cX4_placesAfter 13 = .ok (.iload 6, 2) := by decide +kernel
theorem dX4_placesAfter_15 : decode cX4_placesAfter 15 = .ok (.iload_n 3, 1) := by decide +kernel
theorem dX4_placesAfter_16 : decode cX4_placesAfter 16 = .ok (.if_icmp .gt 27, 3) := by decide +kernel
theorem dX4_placesAfter_19 : decode cX4_placesAfter 19 = .ok (.aload_n 0, 1) := by decide +kernel
theorem dX4_placesAfter_20 : decode cX4_placesAfter 20 = .ok (.getfield 12, 3) := by decide +kernel
theorem dX4_placesAfter_23 : decode cX4_placesAfter 23 = .ok (.lload 4, 2) := by decide +kernel
theorem dX4_placesAfter_25 : decode cX4_placesAfter 25 = .ok (.aload_n 1, 1) := by decide +kernel
theorem dX4_placesAfter_26 : decode cX4_placesAfter 26 = .ok (.iload_n 2, 1) := by decide +kernel
theorem dX4_placesAfter_27 : decode cX4_placesAfter 27 = .ok (.iload 6, 2) := by decide +kernel
theorem dX4_placesAfter_29 : decode cX4_placesAfter 29 = .ok (.invokevirtual 22, 3) := by decide +kernel
theorem dX4_placesAfter_32 : decode cX4_placesAfter 32 = .ok (.invokevirtual 35, 3) := by decide +kernel
theorem dX4_placesAfter_35 : decode cX4_placesAfter 35 = .ok (.lstore 4, 2) := by decide +kernel
theorem dX4_placesAfter_37 : decode cX4_placesAfter 37 = .ok (.iinc 6 1, 3) := by decide +kernel
theorem dX4_placesAfter_40 : decode cX4_placesAfter 40 = .ok (.goto (-27), 3) := by decide +kernel
theorem dX4_placesAfter_43 : decode cX4_placesAfter 43 = .ok (.lload 4, 2) := by decide +kernel
theorem dX4_placesAfter_45 : decode cX4_placesAfter 45 = .ok (.lreturn, 1) := by decide +kernel
set_option maxRecDepth 20000 in
theorem ggX4_daysTo_X2_upFor : GoodIn wsX4_daysTo wsX2_upFor := goodIn_r _ [7, 8, 9, 10, 11, 12, 13, 6, 14, 15, 16, 17, 18, 19, 20, 21, 22, 23, 37, 38, 39, 40, 41, 42, 43, 44, 45, 46, 47] (by decide +kernel) (by decide +kernel)
set_option maxRecDepth 20000 in
theorem gX4_daysTo_X2_upFor : GoodIn wsX4_daysTo (wsV RX4 22 RX2 yX2_upFor wsX2_upFor) := goodIn_app (goodIn_of _ (by decide +kernel)) ggX4_daysTo_X2_upFor
set_option maxRecDepth 20000 in
theorem ggX4_daysTo_X0_spread : GoodIn wsX4_daysTo wsX0_spread := goodIn_r _ [28, 29, 30, 31, 27, 32, 33, 34, 35, 36, 50, 51, 52, 53] (by decide +kernel) (by decide +kernel)
set_option maxRecDepth 20000 in
theorem gX4_daysTo_X0_spread : GoodIn wsX4_daysTo (wsV RX4 35 RX0 yX0_spread wsX0_spread) := goodIn_app (goodIn_of _ (by decide +kernel)) ggX4_daysTo_X0_spread
theorem dX4_daysTo_0 : decode cX4_daysTo 0 = .ok (.lconst 1, 1) := by decide +kernel
theorem dX4_daysTo_1 : decode cX4_daysTo 1 = .ok (.aload_n 1, 1) := by decide +kernel
theorem dX4_daysTo_2 : decode cX4_daysTo 2 = .ok (.getfield 28, 3) := by decide +kernel
theorem dX4_daysTo_5 : decode cX4_daysTo 5 = .ok (.iload_n 2, 1) := by decide +kernel
theorem dX4_daysTo_6 : decode cX4_daysTo 6 = .ok (.iaload, 1) := by decide +kernel
theorem dX4_daysTo_7 : decode cX4_daysTo 7 = .ok (.lshl, 1) := by decide +kernel
theorem dX4_daysTo_8 : decode cX4_daysTo 8 = .ok (.lstore 4, 2) := by decide +kernel
theorem dX4_daysTo_10 : decode cX4_daysTo 10 = .ok (.iconst 0, 1) := by decide +kernel
theorem dX4_daysTo_11 : decode cX4_daysTo 11 = .ok (.istore 6, 2) := by decide +kernel
theorem dX4_daysTo_13 : decode cX4_daysTo 13 = .ok (.iload 6, 2) := by decide +kernel
theorem dX4_daysTo_15 : decode cX4_daysTo 15 = .ok (.bipush 40, 2) := by decide +kernel
theorem dX4_daysTo_17 : decode cX4_daysTo 17 = .ok (.if_icmp .gt 41, 3) := by decide +kernel
theorem dX4_daysTo_20 : decode cX4_daysTo 20 = .ok (.lload 4, 2) := by decide +kernel
theorem dX4_daysTo_22 : decode cX4_daysTo 22 = .ok (.iload_n 3, 1) := by decide +kernel
theorem dX4_daysTo_23 : decode cX4_daysTo 23 = .ok (.lshr, 1) := by decide +kernel
theorem dX4_daysTo_24 : decode cX4_daysTo 24 = .ok (.lconst 1, 1) := by decide +kernel
theorem dX4_daysTo_25 : decode cX4_daysTo 25 = .ok (.land, 1) := by decide +kernel
theorem dX4_daysTo_26 : decode cX4_daysTo 26 = .ok (.lconst 0, 1) := by decide +kernel
theorem dX4_daysTo_27 : decode cX4_daysTo 27 = .ok (.lcmp, 1) := by decide +kernel
theorem dX4_daysTo_28 : decode cX4_daysTo 28 = .ok (.ifCond .eq 6, 3) := by decide +kernel
theorem dX4_daysTo_31 : decode cX4_daysTo 31 = .ok (.iload 6, 2) := by decide +kernel
theorem dX4_daysTo_33 : decode cX4_daysTo 33 = .ok (.ireturn, 1) := by decide +kernel
theorem dX4_daysTo_34 : decode cX4_daysTo 34 = .ok (.aload_n 0, 1) := by decide +kernel
theorem dX4_daysTo_35 : decode cX4_daysTo 35 = .ok (.getfield 12, 3) := by decide +kernel
theorem dX4_daysTo_38 : decode cX4_daysTo 38 = .ok (.lload 4, 2) := by decide +kernel
theorem dX4_daysTo_40 : decode cX4_daysTo 40 = .ok (.aload_n 1, 1) := by decide +kernel
theorem dX4_daysTo_41 : decode cX4_daysTo 41 = .ok (.iload_n 2, 1) := by decide +kernel
theorem dX4_daysTo_42 : decode cX4_daysTo 42 = .ok (.iload 6, 2) := by decide +kernel
theorem dX4_daysTo_44 : decode cX4_daysTo 44 = .ok (.invokevirtual 22, 3) := by decide +kernel
theorem dX4_daysTo_47 : decode cX4_daysTo 47 = .ok (.invokevirtual 35, 3) := by decide +kernel
theorem dX4_daysTo_50 : decode cX4_daysTo 50 = .ok (.lstore 4, 2) := by decide +kernel
theorem dX4_daysTo_52 : decode cX4_daysTo 52 = .ok (.iinc 6 1, 3) := by decide +kernel
theorem dX4_daysTo_55 : decode cX4_daysTo 55 = .ok (.goto (-42), 3) := by decide +kernel
theorem dX4_daysTo_58 : decode cX4_daysTo 58 = .ok (.lload 4, 2) := by decide +kernel
theorem dX4_daysTo_60 : decode cX4_daysTo 60 = .ok (.iload_n 3, 1) := by decide +kernel
theorem dX4_daysTo_61 : decode cX4_daysTo 61 = .ok (.lshr, 1) := by decide +kernel
theorem dX4_daysTo_62 : decode cX4_daysTo 62 = .ok (.lconst 1, 1) := by decide +kernel
theorem dX4_daysTo_63 : decode cX4_daysTo 63 = .ok (.land, 1) := by decide +kernel
theorem dX4_daysTo_64 : decode cX4_daysTo 64 = .ok (.lconst 0, 1) := by decide +kernel
theorem dX4_daysTo_65 : decode cX4_daysTo 65 = .ok (.lcmp, 1) := by decide +kernel
theorem dX4_daysTo_66 : decode cX4_daysTo 66 = .ok (.ifCond .eq 8, 3) := by decide +kernel
theorem dX4_daysTo_69 : decode cX4_daysTo 69 = .ok (.bipush 41, 2) := by decide +kernel
theorem dX4_daysTo_71 : decode cX4_daysTo 71 = .ok (.goto 4, 3) := by decide +kernel
theorem dX4_daysTo_74 : decode cX4_daysTo 74 = .ok (.iconst (-1), 1) := by decide +kernel
theorem dX4_daysTo_75 : decode cX4_daysTo 75 = .ok (.ireturn, 1) := by decide +kernel
set_option maxRecDepth 20000 in
theorem ggX4_daysToMeet_X2_upFor : GoodIn wsX4_daysToMeet wsX2_upFor := goodIn_r _ [7, 8, 9, 10, 11, 12, 13, 6, 14, 15, 16, 17, 18, 19, 20, 21, 22, 23, 37, 38, 39, 40, 41, 42, 43, 44, 45, 46, 47] (by decide +kernel) (by decide +kernel)
set_option maxRecDepth 20000 in
theorem gX4_daysToMeet_X2_upFor : GoodIn wsX4_daysToMeet (wsV RX4 22 RX2 yX2_upFor wsX2_upFor) := goodIn_app (goodIn_of _ (by decide +kernel)) ggX4_daysToMeet_X2_upFor
set_option maxRecDepth 20000 in
theorem ggX4_daysToMeet_X0_spread : GoodIn wsX4_daysToMeet wsX0_spread := goodIn_r _ [28, 29, 30, 31, 27, 32, 33, 34, 35, 36, 50, 51, 52, 53] (by decide +kernel) (by decide +kernel)
set_option maxRecDepth 20000 in
theorem gX4_daysToMeet_X0_spread : GoodIn wsX4_daysToMeet (wsV RX4 35 RX0 yX0_spread wsX0_spread) := goodIn_app (goodIn_of _ (by decide +kernel)) ggX4_daysToMeet_X0_spread
theorem dX4_daysToMeet_0 : decode cX4_daysToMeet 0 = .ok (.lconst 1, 1) := by decide +kernel
theorem dX4_daysToMeet_1 : decode cX4_daysToMeet 1 = .ok (.aload_n 1, 1) := by decide +kernel
theorem dX4_daysToMeet_2 : decode cX4_daysToMeet 2 = .ok (.getfield 28, 3) := by decide +kernel
theorem dX4_daysToMeet_5 : decode cX4_daysToMeet 5 = .ok (.iload_n 2, 1) := by decide +kernel
theorem dX4_daysToMeet_6 : decode cX4_daysToMeet 6 = .ok (.iaload, 1) := by decide +kernel
theorem dX4_daysToMeet_7 : decode cX4_daysToMeet 7 = .ok (.lshl, 1) := by decide +kernel
theorem dX4_daysToMeet_8 : decode cX4_daysToMeet 8 = .ok (.lstore 4, 2) := by decide +kernel
theorem dX4_daysToMeet_10 : decode cX4_daysToMeet 10 = .ok (.lconst 1, 1) := by decide +kernel
theorem dX4_daysToMeet_11 : decode cX4_daysToMeet 11 = .ok (.aload_n 1, 1) := by decide +kernel
theorem dX4_daysToMeet_12 : decode cX4_daysToMeet 12 = .ok (.getfield 28, 3) := by decide +kernel
theorem dX4_daysToMeet_15 : decode cX4_daysToMeet 15 = .ok (.iload_n 3, 1) := by decide +kernel
theorem dX4_daysToMeet_16 : decode cX4_daysToMeet 16 = .ok (.iaload, 1) := by decide +kernel
theorem dX4_daysToMeet_17 : decode cX4_daysToMeet 17 = .ok (.lshl, 1) := by decide +kernel
theorem dX4_daysToMeet_18 : decode cX4_daysToMeet 18 = .ok (.lstore 6, 2) := by decide +kernel
theorem dX4_daysToMeet_20 : decode cX4_daysToMeet 20 = .ok (.iconst 0, 1) := by decide +kernel
theorem dX4_daysToMeet_21 : decode cX4_daysToMeet 21 = .ok (.istore 8, 2) := by decide +kernel
theorem dX4_daysToMeet_23 : decode cX4_daysToMeet 23 = .ok (.iload 8, 2) := by decide +kernel
theorem dX4_daysToMeet_25 : decode cX4_daysToMeet 25 = .ok (.bipush 40, 2) := by decide +kernel
theorem dX4_daysToMeet_27 : decode cX4_daysToMeet 27 = .ok (.if_icmp .gt 58, 3) := by decide +kernel
theorem dX4_daysToMeet_30 : decode cX4_daysToMeet 30 = .ok (.lload 4, 2) := by decide +kernel
theorem dX4_daysToMeet_32 : decode cX4_daysToMeet 32 = .ok (.lload 6, 2) := by decide +kernel
theorem dX4_daysToMeet_34 : decode cX4_daysToMeet 34 = .ok (.land, 1) := by decide +kernel
theorem dX4_daysToMeet_35 : decode cX4_daysToMeet 35 = .ok (.lconst 0, 1) := by decide +kernel
theorem dX4_daysToMeet_36 : decode cX4_daysToMeet 36 = .ok (.lcmp, 1) := by decide +kernel
theorem dX4_daysToMeet_37 : decode cX4_daysToMeet 37 = .ok (.ifCond .eq 6, 3) := by decide +kernel
theorem dX4_daysToMeet_40 : decode cX4_daysToMeet 40 = .ok (.iload 8, 2) := by decide +kernel
theorem dX4_daysToMeet_42 : decode cX4_daysToMeet 42 = .ok (.ireturn, 1) := by decide +kernel
theorem dX4_daysToMeet_43 : decode cX4_daysToMeet 43 = .ok (.aload_n 0, 1) := by decide +kernel
theorem dX4_daysToMeet_44 : decode cX4_daysToMeet 44 = .ok (.getfield 12, 3) := by decide +kernel
theorem dX4_daysToMeet_47 : decode cX4_daysToMeet 47 = .ok (.lload 4, 2) := by decide +kernel
theorem dX4_daysToMeet_49 : decode cX4_daysToMeet 49 = .ok (.aload_n 1, 1) := by decide +kernel
theorem dX4_daysToMeet_50 : decode cX4_daysToMeet 50 = .ok (.iload_n 2, 1) := by decide +kernel
theorem dX4_daysToMeet_51 : decode cX4_daysToMeet 51 = .ok (.iload 8, 2) := by decide +kernel
theorem dX4_daysToMeet_53 : decode cX4_daysToMeet 53 = .ok (.invokevirtual 22, 3) := by decide +kernel
theorem dX4_daysToMeet_56 : decode cX4_daysToMeet 56 = .ok (.invokevirtual 35, 3) := by decide +kernel
theorem dX4_daysToMeet_59 : decode cX4_daysToMeet 59 = .ok (.lstore 4, 2) := by decide +kernel
theorem dX4_daysToMeet_61 : decode cX4_daysToMeet 61 = .ok (.aload_n 0, 1) := by decide +kernel
theorem dX4_daysToMeet_62 : decode cX4_daysToMeet 62 = .ok (.getfield 12, 3) := by decide +kernel
theorem dX4_daysToMeet_65 : decode cX4_daysToMeet 65 = .ok (.lload 6, 2) := by decide +kernel
theorem dX4_daysToMeet_67 : decode cX4_daysToMeet 67 = .ok (.aload_n 1, 1) := by decide +kernel
theorem dX4_daysToMeet_68 : decode cX4_daysToMeet 68 = .ok (.iload_n 3, 1) := by decide +kernel
theorem dX4_daysToMeet_69 : decode cX4_daysToMeet 69 = .ok (.iload 8, 2) := by decide +kernel
theorem dX4_daysToMeet_71 : decode cX4_daysToMeet 71 = .ok (.invokevirtual 22, 3) := by decide +kernel
theorem dX4_daysToMeet_74 : decode cX4_daysToMeet 74 = .ok (.invokevirtual 35, 3) := by decide +kernel
theorem dX4_daysToMeet_77 : decode cX4_daysToMeet 77 = .ok (.lstore 6, 2) := by decide +kernel
theorem dX4_daysToMeet_79 : decode cX4_daysToMeet 79 = .ok (.iinc 8 1, 3) := by decide +kernel
theorem dX4_daysToMeet_82 : decode cX4_daysToMeet 82 = .ok (.goto (-59), 3) := by decide +kernel
theorem dX4_daysToMeet_85 : decode cX4_daysToMeet 85 = .ok (.lload 4, 2) := by decide +kernel
theorem dX4_daysToMeet_87 : decode cX4_daysToMeet 87 = .ok (.lload 6, 2) := by decide +kernel
theorem dX4_daysToMeet_89 : decode cX4_daysToMeet 89 = .ok (.land, 1) := by decide +kernel
theorem dX4_daysToMeet_90 : decode cX4_daysToMeet 90 = .ok (.lconst 0, 1) := by decide +kernel
theorem dX4_daysToMeet_91 : decode cX4_daysToMeet 91 = .ok (.lcmp, 1) := by decide +kernel
theorem dX4_daysToMeet_92 : decode cX4_daysToMeet 92 = .ok (.ifCond .eq 8, 3) := by decide +kernel
theorem dX4_daysToMeet_95 : decode cX4_daysToMeet 95 = .ok (.bipush 41, 2) := by decide +kernel
theorem dX4_daysToMeet_97 : decode cX4_daysToMeet 97 = .ok (.goto 4, 3) := by decide +kernel
theorem dX4_daysToMeet_100 : decode cX4_daysToMeet 100 = .ok (.iconst (-1), 1) := by decide +kernel
theorem dX4_daysToMeet_101 : decode cX4_daysToMeet 101 = .ok (.ireturn, 1) := by decide +kernel
set_option maxRecDepth 20000 in
theorem ggX4_helmOn_X4_daysTo : GoodIn wsX4_helmOn wsX4_daysTo := goodIn_r _ [8, 1, 3, 9, 10, 11, 12, 13, 14, 15, 16, 17, 18, 19, 20, 21, 22, 23, 24, 25, 26, 27, 28, 29, 30, 31, 32, 33, 34, 35, 36, 37, 38, 39, 40, 41, 42, 64, 65, 66, 67, 68, 69, 70, 71, 72, 73, 74, 75, 76, 77, 78, 79, 80] (by decide +kernel) (by decide +kernel)
set_option maxRecDepth 20000 in
theorem gX4_helmOn_X4_daysTo : GoodIn wsX4_helmOn (wsV RX4 39 RX4 yX4_daysTo wsX4_daysTo) := goodIn_app (goodIn_of _ (by decide +kernel)) ggX4_helmOn_X4_daysTo
set_option maxRecDepth 20000 in
theorem ggX4_helmOn_X4_traceBack : GoodIn wsX4_helmOn wsX4_traceBack := goodIn_r _ [46, 2, 3, 9, 10, 11, 12, 13, 14, 15, 16, 17, 18, 19, 20, 21, 22, 23, 24, 25, 26, 27, 28, 29, 47, 48, 49, 33, 50, 51, 52, 53, 54, 39, 41, 42, 40, 75, 76, 64, 65, 66, 67, 68, 69, 70, 71, 72, 73, 74, 77, 78, 79, 80] (by decide +kernel) (by decide +kernel)
set_option maxRecDepth 20000 in
theorem gX4_helmOn_X4_traceBack : GoodIn wsX4_helmOn (wsV RX4 43 RX4 yX4_traceBack wsX4_traceBack) := goodIn_app (goodIn_of _ (by decide +kernel)) ggX4_helmOn_X4_traceBack
set_option maxRecDepth 20000 in
theorem ggX4_helmOn_X2_upFor : GoodIn wsX4_helmOn wsX2_upFor := goodIn_r _ [13, 14, 15, 16, 17, 18, 19, 12, 20, 21, 22, 23, 24, 25, 26, 27, 28, 29, 64, 65, 66, 67, 68, 69, 70, 71, 72, 73, 74] (by decide +kernel) (by decide +kernel)
set_option maxRecDepth 20000 in
theorem gX4_helmOn_X2_upFor : GoodIn wsX4_helmOn (wsV RX4 22 RX2 yX2_upFor wsX2_upFor) := goodIn_app (goodIn_of _ (by decide +kernel)) ggX4_helmOn_X2_upFor
set_option maxRecDepth 20000 in
theorem ggX4_helmOn_X4_firstHelm : GoodIn wsX4_helmOn wsX4_firstHelm := goodIn_r _ [58, 3, 59, 36, 37, 33, 38, 39, 40, 41, 42, 75, 76, 77, 78, 79, 80] (by decide +kernel) (by decide +kernel)
set_option maxRecDepth 20000 in
theorem gX4_helmOn_X4_firstHelm : GoodIn wsX4_helmOn (wsV RX4 47 RX4 yX4_firstHelm wsX4_firstHelm) := goodIn_app (goodIn_of _ (by decide +kernel)) ggX4_helmOn_X4_firstHelm
set_option maxRecDepth 20000 in
theorem ggX4_helmOn_X0_landing : GoodIn wsX4_helmOn wsX0_landing := goodIn_r _ [63, 39, 35, 36, 37, 33, 38, 40, 41, 42, 77, 78, 79, 80] (by decide +kernel) (by decide +kernel)
set_option maxRecDepth 20000 in
theorem gX4_helmOn_X0_landing : GoodIn wsX4_helmOn (wsV RX4 32 RX0 yX0_landing wsX0_landing) := goodIn_app (goodIn_of _ (by decide +kernel)) ggX4_helmOn_X0_landing
theorem dX4_helmOn_0 : decode cX4_helmOn 0 = .ok (.aload_n 0, 1) := by decide +kernel
theorem dX4_helmOn_1 : decode cX4_helmOn 1 = .ok (.aload_n 1, 1) := by decide +kernel
theorem dX4_helmOn_2 : decode cX4_helmOn 2 = .ok (.iload_n 2, 1) := by decide +kernel
theorem dX4_helmOn_3 : decode cX4_helmOn 3 = .ok (.iload_n 3, 1) := by decide +kernel
theorem dX4_helmOn_4 : decode cX4_helmOn 4 = .ok (.invokevirtual 39, 3) := by decide +kernel
theorem dX4_helmOn_7 : decode cX4_helmOn 7 = .ok (.istore 5, 2) := by decide +kernel
theorem dX4_helmOn_9 : decode cX4_helmOn 9 = .ok (.iload 4, 2) := by decide +kernel
theorem dX4_helmOn_11 : decode cX4_helmOn 11 = .ok (.iload 5, 2) := by decide +kernel
theorem dX4_helmOn_13 : decode cX4_helmOn 13 = .ok (.if_icmp .lt 5, 3) := by decide +kernel
theorem dX4_helmOn_16 : decode cX4_helmOn 16 = .ok (.iconst (-1), 1) := by decide +kernel
theorem dX4_helmOn_17 : decode cX4_helmOn 17 = .ok (.ireturn, 1) := by decide +kernel
theorem dX4_helmOn_18 : decode cX4_helmOn 18 = .ok (.aload_n 0, 1) := by decide +kernel
theorem dX4_helmOn_19 : decode cX4_helmOn 19 = .ok (.aload_n 1, 1) := by decide +kernel
theorem dX4_helmOn_20 : decode cX4_helmOn 20 = .ok (.iload_n 2, 1) := by decide +kernel
theorem dX4_helmOn_21 : decode cX4_helmOn 21 = .ok (.iload_n 3, 1) := by decide +kernel
theorem dX4_helmOn_22 : decode cX4_helmOn 22 = .ok (.iload 5, 2) := by decide +kernel
theorem dX4_helmOn_24 : decode cX4_helmOn 24 = .ok (.invokevirtual 43, 3) := by decide +kernel
theorem dX4_helmOn_27 : decode cX4_helmOn 27 = .ok (.aload_n 1, 1) := by decide +kernel
theorem dX4_helmOn_28 : decode cX4_helmOn 28 = .ok (.getfield 28, 3) := by decide +kernel
theorem dX4_helmOn_31 : decode cX4_helmOn 31 = .ok (.iload_n 2, 1) := by decide +kernel
theorem dX4_helmOn_32 : decode cX4_helmOn 32 = .ok (.iaload, 1) := by decide +kernel
theorem dX4_helmOn_33 : decode cX4_helmOn 33 = .ok (.istore 6, 2) := by decide +kernel
theorem dX4_helmOn_35 : decode cX4_helmOn 35 = .ok (.iconst 5, 1) := by decide +kernel
theorem dX4_helmOn_36 : decode cX4_helmOn 36 = .ok (.istore 7, 2) := by decide +kernel
theorem dX4_helmOn_38 : decode cX4_helmOn 38 = .ok (.iconst 0, 1) := by decide +kernel
theorem dX4_helmOn_39 : decode cX4_helmOn 39 = .ok (.istore 8, 2) := by decide +kernel
theorem dX4_helmOn_41 : decode cX4_helmOn 41 = .ok (.iload 8, 2) := by decide +kernel
theorem dX4_helmOn_43 : decode cX4_helmOn 43 = .ok (.iload 4, 2) := by decide +kernel
theorem dX4_helmOn_45 : decode cX4_helmOn 45 = .ok (.if_icmp .gt 57, 3) := by decide +kernel
theorem dX4_helmOn_48 : decode cX4_helmOn 48 = .ok (.aload_n 0, 1) := by decide +kernel
theorem dX4_helmOn_49 : decode cX4_helmOn 49 = .ok (.iload 6, 2) := by decide +kernel
theorem dX4_helmOn_51 : decode cX4_helmOn 51 = .ok (.aload_n 1, 1) := by decide +kernel
theorem dX4_helmOn_52 : decode cX4_helmOn 52 = .ok (.iload_n 2, 1) := by decide +kernel
theorem dX4_helmOn_53 : decode cX4_helmOn 53 = .ok (.iload 8, 2) := by decide +kernel
theorem dX4_helmOn_55 : decode cX4_helmOn 55 = .ok (.invokevirtual 22, 3) := by decide +kernel
theorem dX4_helmOn_58 : decode cX4_helmOn 58 = .ok (.aload_n 0, 1) := by decide +kernel
theorem dX4_helmOn_59 : decode cX4_helmOn 59 = .ok (.getfield 18, 3) := by decide +kernel
theorem dX4_helmOn_62 : decode cX4_helmOn 62 = .ok (.iload 8, 2) := by decide +kernel
theorem dX4_helmOn_64 : decode cX4_helmOn 64 = .ok (.iconst 1, 1) := by decide +kernel
theorem dX4_helmOn_65 : decode cX4_helmOn 65 = .ok (.iadd, 1) := by decide +kernel
theorem dX4_helmOn_66 : decode cX4_helmOn 66 = .ok (.laload, 1) := by decide +kernel
theorem dX4_helmOn_67 : decode cX4_helmOn 67 = .ok (.invokevirtual 47, 3) := by decide +kernel
theorem dX4_helmOn_70 : decode cX4_helmOn 70 = .ok (.istore 7, 2) := by decide +kernel
theorem dX4_helmOn_72 : decode cX4_helmOn 72 = .ok (.iload 7, 2) := by decide +kernel
theorem dX4_helmOn_74 : decode cX4_helmOn 74 = .ok (.iconst 5, 1) := by decide +kernel
theorem dX4_helmOn_75 : decode cX4_helmOn 75 = .ok (.if_icmp .ne 8, 3) := by decide +kernel
theorem dX4_helmOn_78 : decode cX4_helmOn 78 = .ok (.iload 6, 2) := by decide +kernel
theorem dX4_helmOn_80 : decode cX4_helmOn 80 = .ok (.goto 14, 3) := by decide +kernel
theorem dX4_helmOn_83 : decode cX4_helmOn 83 = .ok (.aload_n 0, 1) := by decide +kernel
theorem dX4_helmOn_84 : decode cX4_helmOn 84 = .ok (.getfield 12, 3) := by decide +kernel
theorem dX4_helmOn_87 : decode cX4_helmOn 87 = .ok (.iload 6, 2) := by decide +kernel
theorem dX4_helmOn_89 : decode cX4_helmOn 89 = .ok (.iload 7, 2) := by decide +kernel
theorem dX4_helmOn_91 : decode cX4_helmOn 91 = .ok (.invokevirtual 32, 3) := by decide +kernel
theorem dX4_helmOn_94 : decode cX4_helmOn 94 = .ok (.istore 6, 2) := by decide +kernel
theorem dX4_helmOn_96 : decode cX4_helmOn 96 = .ok (.iinc 8 1, 3) := by decide +kernel
theorem dX4_helmOn_99 : decode cX4_helmOn 99 = .ok (.goto (-58), 3) := by decide +kernel
theorem dX4_helmOn_102 : decode cX4_helmOn 102 = .ok (.iload 7, 2) := by decide +kernel
theorem dX4_helmOn_104 : decode cX4_helmOn 104 = .ok (.ireturn, 1) := by decide +kernel
set_option maxRecDepth 20000 in
theorem ggX4_traceBack_X2_upFor : GoodIn wsX4_traceBack wsX2_upFor := goodIn_r _ [7, 8, 9, 10, 11, 12, 13, 6, 14, 15, 16, 17, 18, 19, 20, 21, 22, 23, 39, 40, 41, 42, 43, 44, 45, 46, 47, 48, 49] (by decide +kernel) (by decide +kernel)
set_option maxRecDepth 20000 in
theorem gX4_traceBack_X2_upFor : GoodIn wsX4_traceBack (wsV RX4 22 RX2 yX2_upFor wsX2_upFor) := goodIn_app (goodIn_of _ (by decide +kernel)) ggX4_traceBack_X2_upFor
set_option maxRecDepth 20000 in
theorem ggX4_traceBack_X0_spreadBack : GoodIn wsX4_traceBack wsX0_spreadBack := goodIn_r _ [28, 29, 30, 31, 27, 32, 33, 34, 35, 36, 50, 51, 52, 53] (by decide +kernel) (by decide +kernel)
set_option maxRecDepth 20000 in
theorem gX4_traceBack_X0_spreadBack : GoodIn wsX4_traceBack (wsV RX4 51 RX0 yX0_spreadBack wsX0_spreadBack) := goodIn_app (goodIn_of _ (by decide +kernel)) ggX4_traceBack_X0_spreadBack
theorem dX4_traceBack_0 : decode cX4_traceBack 0 = .ok (.aload_n 0, 1) := by decide +kernel
theorem dX4_traceBack_1 : decode cX4_traceBack 1 = .ok (.getfield 18, 3) := by decide +kernel
theorem dX4_traceBack_4 : decode cX4_traceBack 4 = .ok (.iload 4, 2) := by decide +kernel
theorem dX4_traceBack_6 : decode cX4_traceBack 6 = .ok (.lconst 1, 1) := by decide +kernel
theorem dX4_traceBack_7 : decode cX4_traceBack 7 = .ok (.iload_n 3, 1) := by decide +kernel
theorem dX4_traceBack_8 : decode cX4_traceBack 8 = .ok (.lshl, 1) := by decide +kernel
theorem dX4_traceBack_9 : decode cX4_traceBack 9 = .ok (.lastore, 1) := by decide +kernel
theorem dX4_traceBack_10 : decode cX4_traceBack 10 = .ok (.iload 4, 2) := by decide +kernel
theorem dX4_traceBack_12 : decode cX4_traceBack 12 = .ok (.iconst 1, 1) := by decide +kernel
theorem dX4_traceBack_13 : decode cX4_traceBack 13 = .ok (.isub, 1) := by decide +kernel
theorem dX4_traceBack_14 : decode cX4_traceBack 14 = .ok (.istore 5, 2) := by decide +kernel
theorem dX4_traceBack_16 : decode cX4_traceBack 16 = .ok (.iload 5, 2) := by decide +kernel
theorem dX4_traceBack_18 : decode cX4_traceBack 18 = .ok (.ifCond .lt 39, 3) := by decide +kernel
theorem dX4_traceBack_21 : decode cX4_traceBack 21 = .ok (.aload_n 0, 1) := by decide +kernel
theorem dX4_traceBack_22 : decode cX4_traceBack 22 = .ok (.getfield 18, 3) := by decide +kernel
theorem dX4_traceBack_25 : decode cX4_traceBack 25 = .ok (.iload 5, 2) := by decide +kernel
theorem dX4_traceBack_27 : decode cX4_traceBack 27 = .ok (.aload_n 0, 1) := by decide +kernel
theorem dX4_traceBack_28 : decode cX4_traceBack 28 = .ok (.getfield 12, 3) := by decide +kernel
theorem dX4_traceBack_31 : decode cX4_traceBack 31 = .ok (.aload_n 0, 1) := by decide +kernel
theorem dX4_traceBack_32 : decode cX4_traceBack 32 = .ok (.getfield 18, 3) := by decide +kernel
theorem dX4_traceBack_35 : decode cX4_traceBack 35 = .ok (.iload 5, 2) := by decide +kernel
theorem dX4_traceBack_37 : decode cX4_traceBack 37 = .ok (.iconst 1, 1) := by decide +kernel
theorem dX4_traceBack_38 : decode cX4_traceBack 38 = .ok (.iadd, 1) := by decide +kernel
theorem dX4_traceBack_39 : decode cX4_traceBack 39 = .ok (.laload, 1) := by decide +kernel
theorem dX4_traceBack_40 : decode cX4_traceBack 40 = .ok (.aload_n 1, 1) := by decide +kernel
theorem dX4_traceBack_41 : decode cX4_traceBack 41 = .ok (.iload_n 2, 1) := by decide +kernel
theorem dX4_traceBack_42 : decode cX4_traceBack 42 = .ok (.iload 5, 2) := by decide +kernel
theorem dX4_traceBack_44 : decode cX4_traceBack 44 = .ok (.invokevirtual 22, 3) := by decide +kernel
theorem dX4_traceBack_47 : decode cX4_traceBack 47 = .ok (.invokevirtual 51, 3) := by decide +kernel
theorem dX4_traceBack_50 : decode cX4_traceBack 50 = .ok (.lastore, 1) := by decide +kernel
theorem dX4_traceBack_51 : decode cX4_traceBack 51 = .ok (.iinc 5 (-1), 3) := by decide +kernel
theorem dX4_traceBack_54 : decode cX4_traceBack 54 = .ok (.goto (-38), 3) := by decide +kernel
theorem dX4_traceBack_57 : decode cX4_traceBack 57 = .ok (.return_, 1) := by decide +kernel
set_option maxRecDepth 20000 in
theorem ggX4_firstHelm_X0_movedBy : GoodIn wsX4_firstHelm wsX0_movedBy := goodIn_r _ [6, 7, 8, 9, 10, 13, 14, 15, 16] (by decide +kernel) (by decide +kernel)
set_option maxRecDepth 20000 in
theorem gX4_firstHelm_X0_movedBy : GoodIn wsX4_firstHelm (wsV RX4 54 RX0 yX0_movedBy wsX0_movedBy) := goodIn_app (goodIn_of _ (by decide +kernel)) ggX4_firstHelm_X0_movedBy
theorem dX4_firstHelm_0 : decode cX4_firstHelm 0 = .ok (.iconst 0, 1) := by decide +kernel
theorem dX4_firstHelm_1 : decode cX4_firstHelm 1 = .ok (.istore 5, 2) := by decide +kernel
theorem dX4_firstHelm_3 : decode cX4_firstHelm 3 = .ok (.iload 5, 2) := by decide +kernel
theorem dX4_firstHelm_5 : decode cX4_firstHelm 5 = .ok (.iconst 4, 1) := by decide +kernel
theorem dX4_firstHelm_6 : decode cX4_firstHelm 6 = .ok (.if_icmp .gt 40, 3) := by decide +kernel
theorem dX4_firstHelm_9 : decode cX4_firstHelm 9 = .ok (.iload_n 2, 1) := by decide +kernel
theorem dX4_firstHelm_10 : decode cX4_firstHelm 10 = .ok (.iload 5, 2) := by decide +kernel
theorem dX4_firstHelm_12 : decode cX4_firstHelm 12 = .ok (.ishr, 1) := by decide +kernel
theorem dX4_firstHelm_13 : decode cX4_firstHelm 13 = .ok (.iconst 1, 1) := by decide +kernel
theorem dX4_firstHelm_14 : decode cX4_firstHelm 14 = .ok (.iand, 1) := by decide +kernel
theorem dX4_firstHelm_15 : decode cX4_firstHelm 15 = .ok (.ifCond .eq 25, 3) := by decide +kernel
theorem dX4_firstHelm_18 : decode cX4_firstHelm 18 = .ok (.aload_n 0, 1) := by decide +kernel
theorem dX4_firstHelm_19 : decode cX4_firstHelm 19 = .ok (.getfield 12, 3) := by decide +kernel
theorem dX4_firstHelm_22 : decode cX4_firstHelm 22 = .ok (.lconst 1, 1) := by decide +kernel
theorem dX4_firstHelm_23 : decode cX4_firstHelm 23 = .ok (.iload_n 1, 1) := by decide +kernel
theorem dX4_firstHelm_24 : decode cX4_firstHelm 24 = .ok (.lshl, 1) := by decide +kernel
theorem dX4_firstHelm_25 : decode cX4_firstHelm 25 = .ok (.iload 5, 2) := by decide +kernel
theorem dX4_firstHelm_27 : decode cX4_firstHelm 27 = .ok (.invokevirtual 54, 3) := by decide +kernel
theorem dX4_firstHelm_30 : decode cX4_firstHelm 30 = .ok (.lload_n 3, 1) := by decide +kernel
theorem dX4_firstHelm_31 : decode cX4_firstHelm 31 = .ok (.land, 1) := by decide +kernel
theorem dX4_firstHelm_32 : decode cX4_firstHelm 32 = .ok (.lconst 0, 1) := by decide +kernel
theorem dX4_firstHelm_33 : decode cX4_firstHelm 33 = .ok (.lcmp, 1) := by decide +kernel
theorem dX4_firstHelm_34 : decode cX4_firstHelm 34 = .ok (.ifCond .eq 6, 3) := by decide +kernel
theorem dX4_firstHelm_37 : decode cX4_firstHelm 37 = .ok (.iload 5, 2) := by decide +kernel
theorem dX4_firstHelm_39 : decode cX4_firstHelm 39 = .ok (.ireturn, 1) := by decide +kernel
theorem dX4_firstHelm_40 : decode cX4_firstHelm 40 = .ok (.iinc 5 1, 3) := by decide +kernel
theorem dX4_firstHelm_43 : decode cX4_firstHelm 43 = .ok (.goto (-40), 3) := by decide +kernel
theorem dX4_firstHelm_46 : decode cX4_firstHelm 46 = .ok (.iconst 5, 1) := by decide +kernel
theorem dX4_firstHelm_47 : decode cX4_firstHelm 47 = .ok (.ireturn, 1) := by decide +kernel
set_option maxRecDepth 20000 in
theorem ggX4_driftForADay_X4_nextSeed : GoodIn wsX4_driftForADay wsX4_nextSeed := goodIn_r _ [8, 9, 10, 11] (by decide +kernel) (by decide +kernel)
set_option maxRecDepth 20000 in
theorem gX4_driftForADay_X4_nextSeed : GoodIn wsX4_driftForADay (va_wsS RX4 61 yX4_nextSeed wsX4_nextSeed) := goodIn_app (goodIn_of _ (by decide +kernel)) ggX4_driftForADay_X4_nextSeed
set_option maxRecDepth 20000 in
theorem ggX4_driftForADay_X4_mayBits : GoodIn wsX4_driftForADay wsX4_mayBits := goodIn_r _ [15, 1, 4, 16, 17, 18, 19, 20, 21, 22, 23, 24, 25, 26, 27, 28, 29, 30, 31, 32, 33, 34, 35, 36, 37, 38, 39, 40, 41, 42, 43, 44, 45, 46, 47, 48, 49, 56, 57, 62, 63, 64, 65, 66, 67, 68, 69, 70, 71, 72, 58, 59, 60, 61] (by decide +kernel) (by decide +kernel)
set_option maxRecDepth 20000 in
theorem gX4_driftForADay_X4_mayBits : GoodIn wsX4_driftForADay (wsV RX4 66 RX4 yX4_mayBits wsX4_mayBits) := goodIn_app (goodIn_of _ (by decide +kernel)) ggX4_driftForADay_X4_mayBits
set_option maxRecDepth 20000 in
theorem ggX4_driftForADay_X0_landing : GoodIn wsX4_driftForADay wsX0_landing := goodIn_r _ [41, 42, 43, 44, 45, 40, 46, 47, 48, 49, 58, 59, 60, 61] (by decide +kernel) (by decide +kernel)
set_option maxRecDepth 20000 in
theorem gX4_driftForADay_X0_landing : GoodIn wsX4_driftForADay (wsV RX4 32 RX0 yX0_landing wsX0_landing) := goodIn_app (goodIn_of _ (by decide +kernel)) ggX4_driftForADay_X0_landing
set_option maxRecDepth 20000 in
theorem ggX4_driftForADay_X2_sailTo : GoodIn wsX4_driftForADay wsX2_sailTo := goodIn_r _ [53, 54, 28, 55, 62, 63, 64, 65, 66, 67, 68, 69, 70, 71, 72] (by decide +kernel) (by decide +kernel)
set_option maxRecDepth 20000 in
theorem gX4_driftForADay_X2_sailTo : GoodIn wsX4_driftForADay (wsV RX4 70 RX2 yX2_sailTo wsX2_sailTo) := goodIn_app (goodIn_of _ (by decide +kernel)) ggX4_driftForADay_X2_sailTo
theorem dX4_driftForADay_0 : decode cX4_driftForADay 0 = .ok (.iload_n 2, 1) := by decide +kernel
theorem dX4_driftForADay_1 : decode cX4_driftForADay 1 = .ok (.istore_n 3, 1) := by decide +kernel
theorem dX4_driftForADay_2 : decode cX4_driftForADay 2 = .ok (.iconst 0, 1) := by decide +kernel
theorem dX4_driftForADay_3 : decode cX4_driftForADay 3 = .ok (.istore 4, 2) := by decide +kernel
theorem dX4_driftForADay_5 : decode cX4_driftForADay 5 = .ok (.iload 4, 2) := by decide +kernel
theorem dX4_driftForADay_7 : decode cX4_driftForADay 7 = .ok (.aload_n 0, 1) := by decide +kernel
theorem dX4_driftForADay_8 : decode cX4_driftForADay 8 = .ok (.getfield 12, 3) := by decide +kernel
theorem dX4_driftForADay_11 : decode cX4_driftForADay 11 = .ok (.getfield 57, 3) := by decide +kernel
theorem dX4_driftForADay_14 : decode cX4_driftForADay 14 = .ok (.if_icmp .ge 59, 3) := by decide +kernel
theorem dX4_driftForADay_17 : decode cX4_driftForADay 17 = .ok (.iload_n 3, 1) := by decide +kernel
theorem dX4_driftForADay_18 : decode cX4_driftForADay 18 = .ok (.invokestatic 61, 3) := by decide +kernel
theorem dX4_driftForADay_21 : decode cX4_driftForADay 21 = .ok (.istore_n 3, 1) := by decide +kernel
theorem dX4_driftForADay_22 : decode cX4_driftForADay 22 = .ok (.iload_n 3, 1) := by decide +kernel
theorem dX4_driftForADay_23 : decode cX4_driftForADay 23 = .ok (.ldc 65, 2) := by decide +kernel
theorem dX4_driftForADay_25 : decode cX4_driftForADay 25 = .ok (.idiv, 1) := by decide +kernel
theorem dX4_driftForADay_26 : decode cX4_driftForADay 26 = .ok (.iconst 5, 1) := by decide +kernel
theorem dX4_driftForADay_27 : decode cX4_driftForADay 27 = .ok (.irem, 1) := by decide +kernel
theorem dX4_driftForADay_28 : decode cX4_driftForADay 28 = .ok (.istore 5, 2) := by decide +kernel
theorem dX4_driftForADay_30 : decode cX4_driftForADay 30 = .ok (.aload_n 0, 1) := by decide +kernel
theorem dX4_driftForADay_31 : decode cX4_driftForADay 31 = .ok (.aload_n 1, 1) := by decide +kernel
theorem dX4_driftForADay_32 : decode cX4_driftForADay 32 = .ok (.iload 4, 2) := by decide +kernel
theorem dX4_driftForADay_34 : decode cX4_driftForADay 34 = .ok (.invokevirtual 66, 3) := by decide +kernel
theorem dX4_driftForADay_37 : decode cX4_driftForADay 37 = .ok (.iload 5, 2) := by decide +kernel
theorem dX4_driftForADay_39 : decode cX4_driftForADay 39 = .ok (.ishr, 1) := by decide +kernel
theorem dX4_driftForADay_40 : decode cX4_driftForADay 40 = .ok (.iconst 1, 1) := by decide +kernel
theorem dX4_driftForADay_41 : decode cX4_driftForADay 41 = .ok (.iand, 1) := by decide +kernel
theorem dX4_driftForADay_42 : decode cX4_driftForADay 42 = .ok (.ifCond .eq 25, 3) := by decide +kernel
theorem dX4_driftForADay_45 : decode cX4_driftForADay 45 = .ok (.aload_n 1, 1) := by decide +kernel
theorem dX4_driftForADay_46 : decode cX4_driftForADay 46 = .ok (.iload 4, 2) := by decide +kernel
theorem dX4_driftForADay_48 : decode cX4_driftForADay 48 = .ok (.aload_n 0, 1) := by decide +kernel
theorem dX4_driftForADay_49 : decode cX4_driftForADay 49 = .ok (.getfield 12, 3) := by decide +kernel
theorem dX4_driftForADay_52 : decode cX4_driftForADay 52 = .ok (.aload_n 1, 1) := by decide +kernel
theorem dX4_driftForADay_53 : decode cX4_driftForADay 53 = .ok (.getfield 28, 3) := by decide +kernel
theorem dX4_driftForADay_56 : decode cX4_driftForADay 56 = .ok (.iload 4, 2) := by decide +kernel
theorem dX4_driftForADay_58 : decode cX4_driftForADay 58 = .ok (.iaload, 1) := by decide +kernel
theorem dX4_driftForADay_59 : decode cX4_driftForADay 59 = .ok (.iload 5, 2) := by decide +kernel
theorem dX4_driftForADay_61 : decode cX4_driftForADay 61 = .ok (.invokevirtual 32, 3) := by decide +kernel
theorem dX4_driftForADay_64 : decode cX4_driftForADay 64 = .ok (.invokevirtual 70, 3) := by decide +kernel
theorem dX4_driftForADay_67 : decode cX4_driftForADay 67 = .ok (.iinc 4 1, 3) := by decide +kernel
theorem dX4_driftForADay_70 : decode cX4_driftForADay 70 = .ok (.goto (-65), 3) := by decide +kernel
theorem dX4_driftForADay_73 : decode cX4_driftForADay 73 = .ok (.iload_n 3, 1) := by decide +kernel
theorem dX4_driftForADay_74 : decode cX4_driftForADay 74 = .ok (.ireturn, 1) := by decide +kernel
theorem dX4_nextSeed_0 : decode cX4_nextSeed 0 = .ok (.ldc2_w 74, 3) := by decide +kernel
theorem dX4_nextSeed_3 : decode cX4_nextSeed 3 = .ok (.iload_n 0, 1) := by decide +kernel
theorem dX4_nextSeed_4 : decode cX4_nextSeed 4 = .ok (.i2l, 1) := by decide +kernel
theorem dX4_nextSeed_5 : decode cX4_nextSeed 5 = .ok (.lmul, 1) := by decide +kernel
theorem dX4_nextSeed_6 : decode cX4_nextSeed 6 = .ok (.ldc2_w 76, 3) := by decide +kernel
theorem dX4_nextSeed_9 : decode cX4_nextSeed 9 = .ok (.ladd, 1) := by decide +kernel
theorem dX4_nextSeed_10 : decode cX4_nextSeed 10 = .ok (.ldc2_w 78, 3) := by decide +kernel
theorem dX4_nextSeed_13 : decode cX4_nextSeed 13 = .ok (.land, 1) := by decide +kernel
theorem dX4_nextSeed_14 : decode cX4_nextSeed 14 = .ok (.l2i, 1) := by decide +kernel
theorem dX4_nextSeed_15 : decode cX4_nextSeed 15 = .ok (.ireturn, 1) := by decide +kernel
set_option maxRecDepth 20000 in
theorem ggX5_init_X3_init : GoodIn wsX5_init wsX3_init := goodIn_r _ [28, 29, 2, 3, 30, 31, 32, 78, 79] (by decide +kernel) (by decide +kernel)
set_option maxRecDepth 20000 in
theorem gX5_init_X3_init : GoodIn wsX5_init (wsX3_init) := ggX5_init_X3_init
set_option maxRecDepth 20000 in
theorem ggX5_init_X1_init : GoodIn wsX5_init wsX1_init := goodIn_r _ [35, 36, 2, 3, 30, 37, 38, 39, 40, 41, 42, 10, 43, 44, 45, 46, 47, 48, 49, 89, 90, 91, 92, 93, 94, 95, 96, 97] (by decide +kernel) (by decide +kernel)
set_option maxRecDepth 20000 in
theorem gX5_init_X1_init : GoodIn wsX5_init (wsX1_init) := ggX5_init_X1_init
set_option maxRecDepth 20000 in
theorem ggX5_init_X4_init : GoodIn wsX5_init wsX4_init := goodIn_r _ [52, 53, 2, 3, 54, 55, 56, 57, 58, 59, 60, 61, 62, 63, 64, 65, 66, 67, 111, 112, 113, 114, 98, 99] (by decide +kernel) (by decide +kernel)
set_option maxRecDepth 20000 in
theorem gX5_init_X4_init : GoodIn wsX5_init (wsX4_init) := ggX5_init_X4_init
set_option maxRecDepth 20000 in
theorem ggX5_init_X2_init : GoodIn wsX5_init wsX2_init := goodIn_r _ [70, 71, 2, 3, 30, 72, 73, 74, 75, 76, 77, 100, 101, 102, 103, 104, 105, 106, 107, 108, 109, 110] (by decide +kernel) (by decide +kernel)
set_option maxRecDepth 20000 in
theorem gX5_init_X2_init : GoodIn wsX5_init (wsX2_init) := ggX5_init_X2_init
theorem dX5_init_0 : decode cX5_init 0 = .ok (.aload_n 0, 1) := by decide +kernel
theorem dX5_init_1 : decode cX5_init 1 = .ok (.invokespecial 1, 3) := by decide +kernel
theorem dX5_init_4 : decode cX5_init 4 = .ok (.aload_n 0, 1) := by decide +kernel
theorem dX5_init_5 : decode cX5_init 5 = .ok (.new 7, 3) := by decide +kernel
theorem dX5_init_8 : decode cX5_init 8 = .ok (.dup, 1) := by decide +kernel
theorem dX5_init_9 : decode cX5_init 9 = .ok (.invokespecial 9, 3) := by decide +kernel
theorem dX5_init_12 : decode cX5_init 12 = .ok (.putfield 10, 3) := by decide +kernel
theorem dX5_init_15 : decode cX5_init 15 = .ok (.aload_n 0, 1) := by decide +kernel
theorem dX5_init_16 : decode cX5_init 16 = .ok (.new 16, 3) := by decide +kernel
theorem dX5_init_19 : decode cX5_init 19 = .ok (.dup, 1) := by decide +kernel
theorem dX5_init_20 : decode cX5_init 20 = .ok (.invokespecial 18, 3) := by decide +kernel
theorem dX5_init_23 : decode cX5_init 23 = .ok (.putfield 19, 3) := by decide +kernel
theorem dX5_init_26 : decode cX5_init 26 = .ok (.aload_n 0, 1) := by decide +kernel
theorem dX5_init_27 : decode cX5_init 27 = .ok (.new 23, 3) := by decide +kernel
theorem dX5_init_30 : decode cX5_init 30 = .ok (.dup, 1) := by decide +kernel
theorem dX5_init_31 : decode cX5_init 31 = .ok (.invokespecial 25, 3) := by decide +kernel
theorem dX5_init_34 : decode cX5_init 34 = .ok (.putfield 26, 3) := by decide +kernel
theorem dX5_init_37 : decode cX5_init 37 = .ok (.aload_n 0, 1) := by decide +kernel
theorem dX5_init_38 : decode cX5_init 38 = .ok (.aload_n 0, 1) := by decide +kernel
theorem dX5_init_39 : decode cX5_init 39 = .ok (.getfield 26, 3) := by decide +kernel
theorem dX5_init_42 : decode cX5_init 42 = .ok (.getfield 30, 3) := by decide +kernel
theorem dX5_init_45 : decode cX5_init 45 = .ok (.putfield 34, 3) := by decide +kernel
theorem dX5_init_48 : decode cX5_init 48 = .ok (.aload_n 0, 1) := by decide +kernel
theorem dX5_init_49 : decode cX5_init 49 = .ok (.new 35, 3) := by decide +kernel
theorem dX5_init_52 : decode cX5_init 52 = .ok (.dup, 1) := by decide +kernel
theorem dX5_init_53 : decode cX5_init 53 = .ok (.invokespecial 37, 3) := by decide +kernel
theorem dX5_init_56 : decode cX5_init 56 = .ok (.putfield 38, 3) := by decide +kernel
theorem dX5_init_59 : decode cX5_init 59 = .ok (.aload_n 0, 1) := by decide +kernel
theorem dX5_init_60 : decode cX5_init 60 = .ok (.new 35, 3) := by decide +kernel
theorem dX5_init_63 : decode cX5_init 63 = .ok (.dup, 1) := by decide +kernel
theorem dX5_init_64 : decode cX5_init 64 = .ok (.invokespecial 37, 3) := by decide +kernel
theorem dX5_init_67 : decode cX5_init 67 = .ok (.putfield 42, 3) := by decide +kernel
theorem dX5_init_70 : decode cX5_init 70 = .ok (.aload_n 0, 1) := by decide +kernel
theorem dX5_init_71 : decode cX5_init 71 = .ok (.new 35, 3) := by decide +kernel
theorem dX5_init_74 : decode cX5_init 74 = .ok (.dup, 1) := by decide +kernel
theorem dX5_init_75 : decode cX5_init 75 = .ok (.invokespecial 37, 3) := by decide +kernel
theorem dX5_init_78 : decode cX5_init 78 = .ok (.putfield 45, 3) := by decide +kernel
theorem dX5_init_81 : decode cX5_init 81 = .ok (.aload_n 0, 1) := by decide +kernel
theorem dX5_init_82 : decode cX5_init 82 = .ok (.iconst 0, 1) := by decide +kernel
theorem dX5_init_83 : decode cX5_init 83 = .ok (.putfield 48, 3) := by decide +kernel
theorem dX5_init_86 : decode cX5_init 86 = .ok (.aload_n 0, 1) := by decide +kernel
theorem dX5_init_87 : decode cX5_init 87 = .ok (.iconst 0, 1) := by decide +kernel
theorem dX5_init_88 : decode cX5_init 88 = .ok (.putfield 52, 3) := by decide +kernel
theorem dX5_init_91 : decode cX5_init 91 = .ok (.return_, 1) := by decide +kernel
set_option maxRecDepth 20000 in
theorem ggX5_letter_X3_append : GoodIn wsX5_letter wsX3_append := goodIn_r _ [7, 8, 9, 19, 20] (by decide +kernel) (by decide +kernel)
set_option maxRecDepth 20000 in
theorem gX5_letter_X3_append : GoodIn wsX5_letter (wsV RX5 56 RX3 yX3_append wsX3_append) := goodIn_app (goodIn_of _ (by decide +kernel)) ggX5_letter_X3_append
theorem dX5_letter_0 : decode cX5_letter 0 = .ok (.iload_n 1, 1) := by decide +kernel
theorem dX5_letter_1 : decode cX5_letter 1 = .ok (.iconst 1, 1) := by decide +kernel
theorem dX5_letter_2 : decode cX5_letter 2 = .ok (.if_icmp .lt 9, 3) := by decide +kernel
theorem dX5_letter_5 : decode cX5_letter 5 = .ok (.iload_n 1, 1) := by decide +kernel
theorem dX5_letter_6 : decode cX5_letter 6 = .ok (.bipush 126, 2) := by decide +kernel
theorem dX5_letter_8 : decode cX5_letter 8 = .ok (.if_icmp .le 6, 3) := by decide +kernel
theorem dX5_letter_11 : decode cX5_letter 11 = .ok (.bipush (-102), 2) := by decide +kernel
theorem dX5_letter_13 : decode cX5_letter 13 = .ok (.ireturn, 1) := by decide +kernel
theorem dX5_letter_14 : decode cX5_letter 14 = .ok (.aload_n 0, 1) := by decide +kernel
theorem dX5_letter_15 : decode cX5_letter 15 = .ok (.getfield 10, 3) := by decide +kernel
theorem dX5_letter_18 : decode cX5_letter 18 = .ok (.iload_n 1, 1) := by decide +kernel
theorem dX5_letter_19 : decode cX5_letter 19 = .ok (.invokevirtual 56, 3) := by decide +kernel
theorem dX5_letter_22 : decode cX5_letter 22 = .ok (.ifCond .eq 13, 3) := by decide +kernel
theorem dX5_letter_25 : decode cX5_letter 25 = .ok (.aload_n 0, 1) := by decide +kernel
theorem dX5_letter_26 : decode cX5_letter 26 = .ok (.getfield 10, 3) := by decide +kernel
theorem dX5_letter_29 : decode cX5_letter 29 = .ok (.getfield 60, 3) := by decide +kernel
theorem dX5_letter_32 : decode cX5_letter 32 = .ok (.goto 5, 3) := by decide +kernel
theorem dX5_letter_35 : decode cX5_letter 35 = .ok (.bipush (-104), 2) := by decide +kernel
theorem dX5_letter_37 : decode cX5_letter 37 = .ok (.ireturn, 1) := by decide +kernel
set_option maxRecDepth 20000 in
theorem ggX5_blank_X3_empty : GoodIn wsX5_blank wsX3_empty := goodIn_r _ [6, 7, 17, 18] (by decide +kernel) (by decide +kernel)
set_option maxRecDepth 20000 in
theorem gX5_blank_X3_empty : GoodIn wsX5_blank (wsV RX5 63 RX3 yX3_empty wsX3_empty) := goodIn_app (goodIn_of _ (by decide +kernel)) ggX5_blank_X3_empty
theorem dX5_blank_0 : decode cX5_blank 0 = .ok (.aload_n 0, 1) := by decide +kernel
theorem dX5_blank_1 : decode cX5_blank 1 = .ok (.getfield 10, 3) := by decide +kernel
theorem dX5_blank_4 : decode cX5_blank 4 = .ok (.invokevirtual 63, 3) := by decide +kernel
theorem dX5_blank_7 : decode cX5_blank 7 = .ok (.ireturn, 1) := by decide +kernel
set_option maxRecDepth 20000 in
theorem ggX5_fault_X1_read : GoodIn wsX5_fault wsX1_read := goodIn_r _ [7, 8, 9, 10, 11, 12, 6, 13, 14, 15, 16, 17, 18, 19, 20, 21, 22, 23, 24, 25, 26, 27, 28, 29, 30, 31, 32, 33, 34, 35, 36, 37, 38, 39, 40, 41, 42, 43, 44, 45, 46, 47, 48, 49, 50, 51, 52, 53, 54, 55, 56, 57, 58, 59, 60, 61, 62, 63, 64, 65, 66, 67, 68, 69, 70, 71, 72, 73, 74, 75, 76, 77, 78, 79, 80, 81, 82, 83, 84, 85, 86, 87, 88, 89, 90, 91, 92, 93, 94, 95, 96, 97, 98, 99, 100, 101, 102, 103, 104, 105, 106, 107, 108, 109, 110, 111, 112, 113, 114, 115, 116, 117, 118, 119, 120, 121, 122, 123, 124, 125, 126, 127, 128, 129, 130, 131, 132, 133, 134, 135, 136, 137, 138, 139, 140, 141, 142, 143, 144, 145, 146, 147, 148, 149, 150, 160, 161, 162, 163, 164, 165, 166, 167, 168, 169, 170] (by decide +kernel) (by decide +kernel)
set_option maxRecDepth 20000 in
theorem gX5_fault_X1_read : GoodIn wsX5_fault (wsV RX5 67 RX1 yX1_read wsX1_read) := goodIn_app (goodIn_of _ (by decide +kernel)) ggX5_fault_X1_read
theorem dX5_fault_0 : decode cX5_fault 0 = .ok (.aload_n 0, 1) := by decide +kernel
theorem dX5_fault_1 : decode cX5_fault 1 = .ok (.getfield 19, 3) := by decide +kernel
theorem dX5_fault_4 : decode cX5_fault 4 = .ok (.aload_n 0, 1) := by decide +kernel
theorem dX5_fault_5 : decode cX5_fault 5 = .ok (.getfield 10, 3) := by decide +kernel
theorem dX5_fault_8 : decode cX5_fault 8 = .ok (.invokevirtual 67, 3) := by decide +kernel
theorem dX5_fault_11 : decode cX5_fault 11 = .ok (.ireturn, 1) := by decide +kernel
set_option maxRecDepth 20000 in
theorem ggX5_sea_X1_read : GoodIn wsX5_sea wsX1_read := goodIn_r _ [14, 15, 16, 17, 18, 19, 13, 20, 21, 22, 23, 24, 25, 26, 27, 28, 29, 30, 31, 32, 33, 34, 35, 36, 37, 38, 39, 40, 41, 42, 43, 44, 45, 46, 47, 48, 49, 50, 51, 52, 53, 54, 55, 56, 57, 58, 59, 60, 61, 62, 63, 64, 65, 66, 67, 68, 69, 70, 71, 72, 73, 74, 75, 76, 77, 78, 79, 80, 81, 82, 83, 84, 85, 86, 87, 88, 89, 90, 91, 92, 93, 94, 95, 96, 97, 98, 99, 100, 101, 102, 103, 104, 105, 106, 107, 108, 109, 110, 111, 112, 113, 114, 115, 116, 117, 118, 119, 120, 121, 122, 123, 124, 125, 126, 127, 128, 129, 130, 131, 132, 133, 134, 135, 136, 137, 138, 139, 140, 141, 142, 143, 144, 145, 146, 147, 148, 149, 150, 151, 152, 153, 154, 155, 156, 157, 205, 206, 207, 208, 209, 210, 211, 212, 213, 214, 215] (by decide +kernel) (by decide +kernel)
set_option maxRecDepth 20000 in
theorem gX5_sea_X1_read : GoodIn wsX5_sea (wsV RX5 67 RX1 yX1_read wsX1_read) := goodIn_app (goodIn_of _ (by decide +kernel)) ggX5_sea_X1_read
set_option maxRecDepth 20000 in
theorem ggX5_sea_X0_draw : GoodIn wsX5_sea wsX0_draw := goodIn_r _ [162, 163, 164, 165, 166, 167, 168, 169, 216, 217, 218, 219, 207, 208, 209, 210, 211, 212, 213, 214, 215] (by decide +kernel) (by decide +kernel)
set_option maxRecDepth 20000 in
theorem gX5_sea_X0_draw : GoodIn wsX5_sea (wsV RX5 74 RX0 yX0_draw wsX0_draw) := goodIn_app (goodIn_of _ (by decide +kernel)) ggX5_sea_X0_draw
set_option maxRecDepth 20000 in
theorem ggX5_sea_X2_begin : GoodIn wsX5_sea wsX2_begin := goodIn_r _ [174, 175, 176, 177, 178, 179, 180, 181, 182, 183, 184, 185, 186, 187, 188, 189, 207, 208, 209, 210, 211, 212, 213, 214, 215, 220, 221, 222, 223, 224, 225, 226, 227, 228, 229, 230] (by decide +kernel) (by decide +kernel)
set_option maxRecDepth 20000 in
theorem gX5_sea_X2_begin : GoodIn wsX5_sea (wsV RX5 80 RX2 yX2_begin wsX2_begin) := goodIn_app (goodIn_of _ (by decide +kernel)) ggX5_sea_X2_begin
set_option maxRecDepth 20000 in
theorem ggX5_sea_X3_empty : GoodIn wsX5_sea wsX3_empty := goodIn_r _ [194, 195, 205, 206] (by decide +kernel) (by decide +kernel)
set_option maxRecDepth 20000 in
theorem gX5_sea_X3_empty : GoodIn wsX5_sea (wsV RX5 63 RX3 yX3_empty wsX3_empty) := goodIn_app (goodIn_of _ (by decide +kernel)) ggX5_sea_X3_empty
theorem dX5_sea_0 : decode cX5_sea 0 = .ok (.aload_n 0, 1) := by decide +kernel
theorem dX5_sea_1 : decode cX5_sea 1 = .ok (.getfield 19, 3) := by decide +kernel
theorem dX5_sea_4 : decode cX5_sea 4 = .ok (.aload_n 0, 1) := by decide +kernel
theorem dX5_sea_5 : decode cX5_sea 5 = .ok (.getfield 10, 3) := by decide +kernel
theorem dX5_sea_8 : decode cX5_sea 8 = .ok (.invokevirtual 67, 3) := by decide +kernel
theorem dX5_sea_11 : decode cX5_sea 11 = .ok (.istore_n 1, 1) := by decide +kernel
theorem dX5_sea_12 : decode cX5_sea 12 = .ok (.iload_n 1, 1) := by decide +kernel
theorem dX5_sea_13 : decode cX5_sea 13 = .ok (.aload_n 0, 1) := by decide +kernel
theorem dX5_sea_14 : decode cX5_sea 14 = .ok (.getfield 10, 3) := by decide +kernel
theorem dX5_sea_17 : decode cX5_sea 17 = .ok (.getfield 60, 3) := by decide +kernel
theorem dX5_sea_20 : decode cX5_sea 20 = .ok (.if_icmp .lt 13, 3) := by decide +kernel
theorem dX5_sea_23 : decode cX5_sea 23 = .ok (.aload_n 0, 1) := by decide +kernel
theorem dX5_sea_24 : decode cX5_sea 24 = .ok (.getfield 19, 3) := by decide +kernel
theorem dX5_sea_27 : decode cX5_sea 27 = .ok (.getfield 71, 3) := by decide +kernel
theorem dX5_sea_30 : decode cX5_sea 30 = .ok (.ifCond .ne 6, 3) := by decide +kernel
theorem dX5_sea_33 : decode cX5_sea 33 = .ok (.bipush (-103), 2) := by decide +kernel
theorem dX5_sea_35 : decode cX5_sea 35 = .ok (.ireturn, 1) := by decide +kernel
theorem dX5_sea_36 : decode cX5_sea 36 = .ok (.aload_n 0, 1) := by decide +kernel
theorem dX5_sea_37 : decode cX5_sea 37 = .ok (.getfield 34, 3) := by decide +kernel
theorem dX5_sea_40 : decode cX5_sea 40 = .ok (.aload_n 0, 1) := by decide +kernel
theorem dX5_sea_41 : decode cX5_sea 41 = .ok (.getfield 19, 3) := by decide +kernel
theorem dX5_sea_44 : decode cX5_sea 44 = .ok (.invokevirtual 74, 3) := by decide +kernel
theorem dX5_sea_47 : decode cX5_sea 47 = .ok (.aload_n 0, 1) := by decide +kernel
theorem dX5_sea_48 : decode cX5_sea 48 = .ok (.getfield 38, 3) := by decide +kernel
theorem dX5_sea_51 : decode cX5_sea 51 = .ok (.aload_n 0, 1) := by decide +kernel
theorem dX5_sea_52 : decode cX5_sea 52 = .ok (.getfield 19, 3) := by decide +kernel
theorem dX5_sea_55 : decode cX5_sea 55 = .ok (.invokevirtual 80, 3) := by decide +kernel
theorem dX5_sea_58 : decode cX5_sea 58 = .ok (.aload_n 0, 1) := by decide +kernel
theorem dX5_sea_59 : decode cX5_sea 59 = .ok (.iconst 0, 1) := by decide +kernel
theorem dX5_sea_60 : decode cX5_sea 60 = .ok (.putfield 48, 3) := by decide +kernel
theorem dX5_sea_63 : decode cX5_sea 63 = .ok (.aload_n 0, 1) := by decide +kernel
theorem dX5_sea_64 : decode cX5_sea 64 = .ok (.dup, 1) := by decide +kernel
theorem dX5_sea_65 : decode cX5_sea 65 = .ok (.getfield 52, 3) := by decide +kernel
theorem dX5_sea_68 : decode cX5_sea 68 = .ok (.iconst 1, 1) := by decide +kernel
theorem dX5_sea_69 : decode cX5_sea 69 = .ok (.iadd, 1) := by decide +kernel
theorem dX5_sea_70 : decode cX5_sea 70 = .ok (.putfield 52, 3) := by decide +kernel
theorem dX5_sea_73 : decode cX5_sea 73 = .ok (.aload_n 0, 1) := by decide +kernel
theorem dX5_sea_74 : decode cX5_sea 74 = .ok (.getfield 10, 3) := by decide +kernel
theorem dX5_sea_77 : decode cX5_sea 77 = .ok (.invokevirtual 63, 3) := by decide +kernel
theorem dX5_sea_80 : decode cX5_sea 80 = .ok (.pop, 1) := by decide +kernel
theorem dX5_sea_81 : decode cX5_sea 81 = .ok (.aload_n 0, 1) := by decide +kernel
theorem dX5_sea_82 : decode cX5_sea 82 = .ok (.getfield 34, 3) := by decide +kernel
theorem dX5_sea_85 : decode cX5_sea 85 = .ok (.getfield 83, 3) := by decide +kernel
theorem dX5_sea_88 : decode cX5_sea 88 = .ok (.ireturn, 1) := by decide +kernel
set_option maxRecDepth 20000 in
theorem ggX5_lodger_X5_namesLodger : GoodIn wsX5_lodger wsX5_namesLodger := goodIn_r _ [8, 9, 10, 66, 67, 68, 69, 70, 71, 72, 73, 74, 86, 87, 88, 89] (by decide +kernel) (by decide +kernel)
set_option maxRecDepth 20000 in
theorem gX5_lodger_X5_namesLodger : GoodIn wsX5_lodger (wsV RX5 86 RX5 yX5_namesLodger wsX5_namesLodger) := goodIn_app (goodIn_of _ (by decide +kernel)) ggX5_lodger_X5_namesLodger
set_option maxRecDepth 20000 in
theorem ggX5_lodger_X2_illFor : GoodIn wsX5_lodger wsX2_illFor := goodIn_r _ [15, 16, 17, 18, 19, 20, 21, 75, 76, 77, 78, 79, 80, 81, 82, 83, 84, 85] (by decide +kernel) (by decide +kernel)
set_option maxRecDepth 20000 in
theorem gX5_lodger_X2_illFor : GoodIn wsX5_lodger (wsV RX5 93 RX2 yX2_illFor wsX2_illFor) := goodIn_app (goodIn_of _ (by decide +kernel)) ggX5_lodger_X2_illFor
set_option maxRecDepth 20000 in
theorem ggX5_lodger_X2_isUp : GoodIn wsX5_lodger wsX2_isUp := goodIn_r _ [25, 26, 27, 28, 29, 14, 30, 16, 31, 32, 33, 75, 76, 77, 78, 79, 80, 81, 82, 83, 84, 85] (by decide +kernel) (by decide +kernel)
set_option maxRecDepth 20000 in
theorem gX5_lodger_X2_isUp : GoodIn wsX5_lodger (wsV RX5 100 RX2 yX2_isUp wsX2_isUp) := goodIn_app (goodIn_of _ (by decide +kernel)) ggX5_lodger_X2_isUp
set_option maxRecDepth 20000 in
theorem ggX5_lodger_X5_asBit : GoodIn wsX5_lodger wsX5_asBit := goodIn_r _ [36] (by decide +kernel) (by decide +kernel)
set_option maxRecDepth 20000 in
theorem gX5_lodger_X5_asBit : GoodIn wsX5_lodger (va_wsS RX5 104 yX5_asBit wsX5_asBit) := goodIn_app (goodIn_of _ (by decide +kernel)) ggX5_lodger_X5_asBit
set_option maxRecDepth 20000 in
theorem ggX5_lodger_X2_kindsFitting : GoodIn wsX5_lodger wsX2_kindsFitting := goodIn_r _ [40, 41, 42, 43, 44, 45, 46, 47, 14, 48, 17, 27, 28, 29, 30, 16, 31, 32, 33, 75, 76, 77, 78, 79, 80, 81, 82, 83, 84, 85] (by decide +kernel) (by decide +kernel)
set_option maxRecDepth 20000 in
theorem gX5_lodger_X2_kindsFitting : GoodIn wsX5_lodger (wsV RX5 108 RX2 yX2_kindsFitting wsX2_kindsFitting) := goodIn_app (goodIn_of _ (by decide +kernel)) ggX5_lodger_X2_kindsFitting
set_option maxRecDepth 20000 in
theorem ggX5_lodger_X2_whenToLook : GoodIn wsX5_lodger wsX2_whenToLook := goodIn_r _ [52, 18, 19, 20, 21, 53, 38, 39, 14, 40, 41, 42, 43, 44, 45, 46, 47, 48, 17, 27, 28, 29, 30, 16, 31, 32, 33, 54, 55, 56, 57, 58, 59, 60, 75, 76, 77, 78, 79, 80, 81, 82, 83, 84, 85] (by decide +kernel) (by decide +kernel)
set_option maxRecDepth 20000 in
theorem gX5_lodger_X2_whenToLook : GoodIn wsX5_lodger (wsV RX5 111 RX2 yX2_whenToLook wsX2_whenToLook) := goodIn_app (goodIn_of _ (by decide +kernel)) ggX5_lodger_X2_whenToLook
set_option maxRecDepth 20000 in
theorem ggX5_lodger_X2_daysUp : GoodIn wsX5_lodger wsX2_daysUp := goodIn_r _ [64, 17, 65, 23, 24, 14, 25, 26, 27, 28, 29, 30, 16, 31, 32, 33, 75, 76, 77, 78, 79, 80, 81, 82, 83, 84, 85] (by decide +kernel) (by decide +kernel)
set_option maxRecDepth 20000 in
theorem gX5_lodger_X2_daysUp : GoodIn wsX5_lodger (wsV RX5 114 RX2 yX2_daysUp wsX2_daysUp) := goodIn_app (goodIn_of _ (by decide +kernel)) ggX5_lodger_X2_daysUp
theorem dX5_lodger_0 : decode cX5_lodger 0 = .ok (.aload_n 0, 1) := by decide +kernel
theorem dX5_lodger_1 : decode cX5_lodger 1 = .ok (.iload_n 1, 1) := by decide +kernel
theorem dX5_lodger_2 : decode cX5_lodger 2 = .ok (.invokevirtual 86, 3) := by decide +kernel
theorem dX5_lodger_5 : decode cX5_lodger 5 = .ok (.ifCond .ne 6, 3) := by decide +kernel
theorem dX5_lodger_8 : decode cX5_lodger 8 = .ok (.bipush (-101), 2) := by decide +kernel
theorem dX5_lodger_10 : decode cX5_lodger 10 = .ok (.ireturn, 1) := by decide +kernel
theorem dX5_lodger_11 : decode cX5_lodger 11 = .ok (.iload_n 2, 1) := by decide +kernel
theorem dX5_lodger_12 : decode cX5_lodger 12 = .ok (.tableswitch 107 0 5 #[40, 50, 59, 78, 87, 96], 40) := by decide +kernel
theorem dX5_lodger_52 : decode cX5_lodger 52 = .ok (.aload_n 0, 1) := by decide +kernel
theorem dX5_lodger_53 : decode cX5_lodger 53 = .ok (.getfield 38, 3) := by decide +kernel
theorem dX5_lodger_56 : decode cX5_lodger 56 = .ok (.getfield 89, 3) := by decide +kernel
theorem dX5_lodger_59 : decode cX5_lodger 59 = .ok (.iload_n 1, 1) := by decide +kernel
theorem dX5_lodger_60 : decode cX5_lodger 60 = .ok (.iaload, 1) := by decide +kernel
theorem dX5_lodger_61 : decode cX5_lodger 61 = .ok (.ireturn, 1) := by decide +kernel
theorem dX5_lodger_62 : decode cX5_lodger 62 = .ok (.aload_n 0, 1) := by decide +kernel
theorem dX5_lodger_63 : decode cX5_lodger 63 = .ok (.getfield 38, 3) := by decide +kernel
theorem dX5_lodger_66 : decode cX5_lodger 66 = .ok (.iload_n 1, 1) := by decide +kernel
theorem dX5_lodger_67 : decode cX5_lodger 67 = .ok (.invokevirtual 93, 3) := by decide +kernel
theorem dX5_lodger_70 : decode cX5_lodger 70 = .ok (.ireturn, 1) := by decide +kernel
theorem dX5_lodger_71 : decode cX5_lodger 71 = .ok (.aload_n 0, 1) := by decide +kernel
theorem dX5_lodger_72 : decode cX5_lodger 72 = .ok (.getfield 38, 3) := by decide +kernel
theorem dX5_lodger_75 : decode cX5_lodger 75 = .ok (.iload_n 1, 1) := by decide +kernel
theorem dX5_lodger_76 : decode cX5_lodger 76 = .ok (.aload_n 0, 1) := by decide +kernel
theorem dX5_lodger_77 : decode cX5_lodger 77 = .ok (.getfield 38, 3) := by decide +kernel
theorem dX5_lodger_80 : decode cX5_lodger 80 = .ok (.getfield 97, 3) := by decide +kernel
theorem dX5_lodger_83 : decode cX5_lodger 83 = .ok (.invokevirtual 100, 3) := by decide +kernel
theorem dX5_lodger_86 : decode cX5_lodger 86 = .ok (.invokestatic 104, 3) := by decide +kernel
theorem dX5_lodger_89 : decode cX5_lodger 89 = .ok (.ireturn, 1) := by decide +kernel
theorem dX5_lodger_90 : decode cX5_lodger 90 = .ok (.aload_n 0, 1) := by decide +kernel
theorem dX5_lodger_91 : decode cX5_lodger 91 = .ok (.getfield 38, 3) := by decide +kernel
theorem dX5_lodger_94 : decode cX5_lodger 94 = .ok (.iload_n 1, 1) := by decide +kernel
theorem dX5_lodger_95 : decode cX5_lodger 95 = .ok (.invokevirtual 108, 3) := by decide +kernel
theorem dX5_lodger_98 : decode cX5_lodger 98 = .ok (.ireturn, 1) := by decide +kernel
theorem dX5_lodger_99 : decode cX5_lodger 99 = .ok (.aload_n 0, 1) := by decide +kernel
theorem dX5_lodger_100 : decode cX5_lodger 100 = .ok (.getfield 38, 3) := by decide +kernel
theorem dX5_lodger_103 : decode cX5_lodger 103 = .ok (.iload_n 1, 1) := by decide +kernel
theorem dX5_lodger_104 : decode cX5_lodger 104 = .ok (.invokevirtual 111, 3) := by decide +kernel
theorem dX5_lodger_107 : decode cX5_lodger 107 = .ok (.ireturn, 1) := by decide +kernel
theorem dX5_lodger_108 : decode cX5_lodger 108 = .ok (.aload_n 0, 1) := by decide +kernel
theorem dX5_lodger_109 : decode cX5_lodger 109 = .ok (.getfield 38, 3) := by decide +kernel
theorem dX5_lodger_112 : decode cX5_lodger 112 = .ok (.iload_n 1, 1) := by decide +kernel
theorem dX5_lodger_113 : decode cX5_lodger 113 = .ok (.bipush 28, 2) := by decide +kernel
theorem dX5_lodger_115 : decode cX5_lodger 115 = .ok (.invokevirtual 114, 3) := by decide +kernel
theorem dX5_lodger_118 : decode cX5_lodger 118 = .ok (.ireturn, 1) := by decide +kernel
theorem dX5_lodger_119 : decode cX5_lodger 119 = .ok (.bipush (-102), 2) := by decide +kernel
theorem dX5_lodger_121 : decode cX5_lodger 121 = .ok (.ireturn, 1) := by decide +kernel
set_option maxRecDepth 20000 in
theorem ggX5_as_X5_namesLodger : GoodIn wsX5_as wsX5_namesLodger := goodIn_r _ [7, 8, 9, 16, 17, 18, 19, 20, 21, 22, 23, 24, 36, 37, 38, 39] (by decide +kernel) (by decide +kernel)
