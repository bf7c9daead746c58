set_option maxRecDepth 20000 in
theorem gX5_as_X5_namesLodger : GoodIn wsX5_as (wsV RX5 86 RX5 yX5_namesLodger wsX5_namesLodger) := goodIn_app (goodIn_of _ (by decide +kernel)) ggX5_as_X5_namesLodger
set_option maxRecDepth 20000 in
theorem ggX5_as_X5_isKind : GoodIn wsX5_as wsX5_isKind := goodIn_r _ [12] (by decide +kernel) (by decide +kernel)
set_option maxRecDepth 20000 in
theorem gX5_as_X5_isKind : GoodIn wsX5_as (va_wsS RX5 118 yX5_isKind wsX5_isKind) := goodIn_app (goodIn_of _ (by decide +kernel)) ggX5_as_X5_isKind
set_option maxRecDepth 20000 in
theorem ggX5_as_X5_isSuch : GoodIn wsX5_as wsX5_isSuch := goodIn_r _ [15] (by decide +kernel) (by decide +kernel)
set_option maxRecDepth 20000 in
theorem gX5_as_X5_isSuch : GoodIn wsX5_as (va_wsS RX5 121 yX5_isSuch wsX5_isSuch) := goodIn_app (goodIn_of _ (by decide +kernel)) ggX5_as_X5_isSuch
theorem dX5_as_0 : decode cX5_as 0 = .ok (.aload_n 0, 1) := by decide +kernel
theorem dX5_as_1 : decode cX5_as 1 = .ok (.iload_n 1, 1) := by decide +kernel
theorem dX5_as_2 : decode cX5_as 2 = .ok (.invokevirtual 86, 3) := by decide +kernel
theorem dX5_as_5 : decode cX5_as 5 = .ok (.ifCond .ne 6, 3) := by decide +kernel
theorem dX5_as_8 : decode cX5_as 8 = .ok (.bipush (-101), 2) := by decide +kernel
theorem dX5_as_10 : decode cX5_as 10 = .ok (.ireturn, 1) := by decide +kernel
theorem dX5_as_11 : decode cX5_as 11 = .ok (.iload_n 2, 1) := by decide +kernel
theorem dX5_as_12 : decode cX5_as 12 = .ok (.invokestatic 118, 3) := by decide +kernel
theorem dX5_as_15 : decode cX5_as 15 = .ok (.ifCond .ne 6, 3) := by decide +kernel
theorem dX5_as_18 : decode cX5_as 18 = .ok (.bipush (-102), 2) := by decide +kernel
theorem dX5_as_20 : decode cX5_as 20 = .ok (.ireturn, 1) := by decide +kernel
theorem dX5_as_21 : decode cX5_as 21 = .ok (.aload_n 0, 1) := by decide +kernel
theorem dX5_as_22 : decode cX5_as 22 = .ok (.getfield 38, 3) := by decide +kernel
theorem dX5_as_25 : decode cX5_as 25 = .ok (.getfield 89, 3) := by decide +kernel
theorem dX5_as_28 : decode cX5_as 28 = .ok (.iload_n 1, 1) := by decide +kernel
theorem dX5_as_29 : decode cX5_as 29 = .ok (.iaload, 1) := by decide +kernel
theorem dX5_as_30 : decode cX5_as 30 = .ok (.iload_n 2, 1) := by decide +kernel
theorem dX5_as_31 : decode cX5_as 31 = .ok (.invokestatic 121, 3) := by decide +kernel
theorem dX5_as_34 : decode cX5_as 34 = .ok (.ifCond .eq 7, 3) := by decide +kernel
theorem dX5_as_37 : decode cX5_as 37 = .ok (.iload_n 1, 1) := by decide +kernel
theorem dX5_as_38 : decode cX5_as 38 = .ok (.goto 4, 3) := by decide +kernel
theorem dX5_as_41 : decode cX5_as 41 = .ok (.iconst (-1), 1) := by decide +kernel
theorem dX5_as_42 : decode cX5_as 42 = .ok (.ireturn, 1) := by decide +kernel
set_option maxRecDepth 20000 in
theorem ggX5_ship_X5_namesShip : GoodIn wsX5_ship wsX5_namesShip := goodIn_r _ [8, 9, 10, 11, 57, 58, 59, 60, 61, 62, 63, 64, 65, 77, 78, 79, 80] (by decide +kernel) (by decide +kernel)
set_option maxRecDepth 20000 in
theorem gX5_ship_X5_namesShip : GoodIn wsX5_ship (wsV RX5 124 RX5 yX5_namesShip wsX5_namesShip) := goodIn_app (goodIn_of _ (by decide +kernel)) ggX5_ship_X5_namesShip
set_option maxRecDepth 20000 in
theorem ggX5_ship_X2_hasSailed : GoodIn wsX5_ship wsX2_hasSailed := goodIn_r _ [16, 17, 66, 67, 68, 69, 70, 71, 72, 73, 74, 75, 76] (by decide +kernel) (by decide +kernel)
set_option maxRecDepth 20000 in
theorem gX5_ship_X2_hasSailed : GoodIn wsX5_ship (wsV RX5 130 RX2 yX2_hasSailed wsX2_hasSailed) := goodIn_app (goodIn_of _ (by decide +kernel)) ggX5_ship_X2_hasSailed
set_option maxRecDepth 20000 in
theorem ggX5_ship_X5_asBit : GoodIn wsX5_ship wsX5_asBit := goodIn_r _ [20] (by decide +kernel) (by decide +kernel)
set_option maxRecDepth 20000 in
theorem gX5_ship_X5_asBit : GoodIn wsX5_ship (va_wsS RX5 104 yX5_asBit wsX5_asBit) := goodIn_app (goodIn_of _ (by decide +kernel)) ggX5_ship_X5_asBit
set_option maxRecDepth 20000 in
theorem ggX5_ship_X4_mayBits : GoodIn wsX5_ship wsX4_mayBits := goodIn_r _ [25, 26, 27, 28, 29, 30, 15, 31, 32, 33, 34, 35, 13, 14, 16, 17, 36, 37, 38, 39, 40, 41, 42, 43, 44, 45, 46, 47, 48, 49, 50, 51, 52, 53, 54, 55, 56, 81, 82, 66, 67, 68, 69, 70, 71, 72, 73, 74, 75, 76, 77, 78, 79, 80] (by decide +kernel) (by decide +kernel)
set_option maxRecDepth 20000 in
theorem gX5_ship_X4_mayBits : GoodIn wsX5_ship (wsV RX5 133 RX4 yX4_mayBits wsX4_mayBits) := goodIn_app (goodIn_of _ (by decide +kernel)) ggX5_ship_X4_mayBits
theorem dX5_ship_0 : decode cX5_ship 0 = .ok (.aload_n 0, 1) := by decide +kernel
theorem dX5_ship_1 : decode cX5_ship 1 = .ok (.iload_n 1, 1) := by decide +kernel
theorem dX5_ship_2 : decode cX5_ship 2 = .ok (.invokevirtual 124, 3) := by decide +kernel
theorem dX5_ship_5 : decode cX5_ship 5 = .ok (.ifCond .ne 6, 3) := by decide +kernel
theorem dX5_ship_8 : decode cX5_ship 8 = .ok (.bipush (-101), 2) := by decide +kernel
theorem dX5_ship_10 : decode cX5_ship 10 = .ok (.ireturn, 1) := by decide +kernel
theorem dX5_ship_11 : decode cX5_ship 11 = .ok (.iload_n 2, 1) := by decide +kernel
theorem dX5_ship_12 : decode cX5_ship 12 = .ok (.tableswitch 63 0 2 #[28, 38, 50], 28) := by decide +kernel
theorem dX5_ship_40 : decode cX5_ship 40 = .ok (.aload_n 0, 1) := by decide +kernel
theorem dX5_ship_41 : decode cX5_ship 41 = .ok (.getfield 38, 3) := by decide +kernel
theorem dX5_ship_44 : decode cX5_ship 44 = .ok (.getfield 127, 3) := by decide +kernel
theorem dX5_ship_47 : decode cX5_ship 47 = .ok (.iload_n 1, 1) := by decide +kernel
theorem dX5_ship_48 : decode cX5_ship 48 = .ok (.iaload, 1) := by decide +kernel
theorem dX5_ship_49 : decode cX5_ship 49 = .ok (.ireturn, 1) := by decide +kernel
theorem dX5_ship_50 : decode cX5_ship 50 = .ok (.aload_n 0, 1) := by decide +kernel
theorem dX5_ship_51 : decode cX5_ship 51 = .ok (.getfield 38, 3) := by decide +kernel
theorem dX5_ship_54 : decode cX5_ship 54 = .ok (.iload_n 1, 1) := by decide +kernel
theorem dX5_ship_55 : decode cX5_ship 55 = .ok (.invokevirtual 130, 3) := by decide +kernel
theorem dX5_ship_58 : decode cX5_ship 58 = .ok (.invokestatic 104, 3) := by decide +kernel
theorem dX5_ship_61 : decode cX5_ship 61 = .ok (.ireturn, 1) := by decide +kernel
theorem dX5_ship_62 : decode cX5_ship 62 = .ok (.aload_n 0, 1) := by decide +kernel
theorem dX5_ship_63 : decode cX5_ship 63 = .ok (.getfield 26, 3) := by decide +kernel
theorem dX5_ship_66 : decode cX5_ship 66 = .ok (.aload_n 0, 1) := by decide +kernel
theorem dX5_ship_67 : decode cX5_ship 67 = .ok (.getfield 38, 3) := by decide +kernel
theorem dX5_ship_70 : decode cX5_ship 70 = .ok (.iload_n 1, 1) := by decide +kernel
theorem dX5_ship_71 : decode cX5_ship 71 = .ok (.invokevirtual 133, 3) := by decide +kernel
theorem dX5_ship_74 : decode cX5_ship 74 = .ok (.ireturn, 1) := by decide +kernel
theorem dX5_ship_75 : decode cX5_ship 75 = .ok (.bipush (-102), 2) := by decide +kernel
theorem dX5_ship_77 : decode cX5_ship 77 = .ok (.ireturn, 1) := by decide +kernel
set_option maxRecDepth 20000 in
theorem ggX5_cell_X5_namesCell : GoodIn wsX5_cell wsX5_namesCell := goodIn_r _ [6, 1, 7, 24, 25, 26, 27, 28, 29, 30, 31, 32, 33, 34, 35, 36] (by decide +kernel) (by decide +kernel)
set_option maxRecDepth 20000 in
theorem gX5_cell_X5_namesCell : GoodIn wsX5_cell (wsV RX5 137 RX5 yX5_namesCell wsX5_namesCell) := goodIn_app (goodIn_of _ (by decide +kernel)) ggX5_cell_X5_namesCell
set_option maxRecDepth 20000 in
theorem ggX5_cell_X0_hasRock : GoodIn wsX5_cell wsX0_hasRock := goodIn_r _ [12, 13, 33, 34, 35, 36] (by decide +kernel) (by decide +kernel)
set_option maxRecDepth 20000 in
theorem gX5_cell_X0_hasRock : GoodIn wsX5_cell (wsV RX5 140 RX0 yX0_hasRock wsX0_hasRock) := goodIn_app (goodIn_of _ (by decide +kernel)) ggX5_cell_X0_hasRock
set_option maxRecDepth 20000 in
theorem ggX5_cell_X5_asBit : GoodIn wsX5_cell wsX5_asBit := goodIn_r _ [16] (by decide +kernel) (by decide +kernel)
set_option maxRecDepth 20000 in
theorem gX5_cell_X5_asBit : GoodIn wsX5_cell (va_wsS RX5 104 yX5_asBit wsX5_asBit) := goodIn_app (goodIn_of _ (by decide +kernel)) ggX5_cell_X5_asBit
set_option maxRecDepth 20000 in
theorem ggX5_cell_X5_shipsIn : GoodIn wsX5_cell wsX5_shipsIn := goodIn_r _ [20, 1, 21, 22, 23, 24, 25, 26, 27, 28, 29, 30, 31, 32, 33, 34, 35, 36, 37, 38, 39, 40, 41, 42, 43, 44, 45, 46, 47] (by decide +kernel) (by decide +kernel)
set_option maxRecDepth 20000 in
theorem gX5_cell_X5_shipsIn : GoodIn wsX5_cell (wsV RX5 143 RX5 yX5_shipsIn wsX5_shipsIn) := goodIn_app (goodIn_of _ (by decide +kernel)) ggX5_cell_X5_shipsIn
theorem dX5_cell_0 : decode cX5_cell 0 = .ok (.aload_n 0, 1) := by decide +kernel
theorem dX5_cell_1 : decode cX5_cell 1 = .ok (.iload_n 1, 1) := by decide +kernel
theorem dX5_cell_2 : decode cX5_cell 2 = .ok (.invokevirtual 137, 3) := by decide +kernel
theorem dX5_cell_5 : decode cX5_cell 5 = .ok (.ifCond .ne 6, 3) := by decide +kernel
theorem dX5_cell_8 : decode cX5_cell 8 = .ok (.bipush (-101), 2) := by decide +kernel
theorem dX5_cell_10 : decode cX5_cell 10 = .ok (.ireturn, 1) := by decide +kernel
theorem dX5_cell_11 : decode cX5_cell 11 = .ok (.iload_n 2, 1) := by decide +kernel
theorem dX5_cell_12 : decode cX5_cell 12 = .ok (.lookupswitch 46 #[(0, 28), (1, 40)], 28) := by decide +kernel
theorem dX5_cell_40 : decode cX5_cell 40 = .ok (.aload_n 0, 1) := by decide +kernel
theorem dX5_cell_41 : decode cX5_cell 41 = .ok (.getfield 34, 3) := by decide +kernel
theorem dX5_cell_44 : decode cX5_cell 44 = .ok (.iload_n 1, 1) := by decide +kernel
theorem dX5_cell_45 : decode cX5_cell 45 = .ok (.invokevirtual 140, 3) := by decide +kernel
theorem dX5_cell_48 : decode cX5_cell 48 = .ok (.invokestatic 104, 3) := by decide +kernel
theorem dX5_cell_51 : decode cX5_cell 51 = .ok (.ireturn, 1) := by decide +kernel
theorem dX5_cell_52 : decode cX5_cell 52 = .ok (.aload_n 0, 1) := by decide +kernel
theorem dX5_cell_53 : decode cX5_cell 53 = .ok (.iload_n 1, 1) := by decide +kernel
theorem dX5_cell_54 : decode cX5_cell 54 = .ok (.invokevirtual 143, 3) := by decide +kernel
theorem dX5_cell_57 : decode cX5_cell 57 = .ok (.ireturn, 1) := by decide +kernel
theorem dX5_cell_58 : decode cX5_cell 58 = .ok (.bipush (-102), 2) := by decide +kernel
theorem dX5_cell_60 : decode cX5_cell 60 = .ok (.ireturn, 1) := by decide +kernel
set_option maxRecDepth 20000 in
theorem ggX5_sail_X5_namesShip : GoodIn wsX5_sail wsX5_namesShip := goodIn_r _ [10, 4, 11, 12, 61, 62, 63, 64, 65, 66, 67, 68, 69, 81, 82, 83, 84] (by decide +kernel) (by decide +kernel)
set_option maxRecDepth 20000 in
theorem gX5_sail_X5_namesShip : GoodIn wsX5_sail (wsV RX5 124 RX5 yX5_namesShip wsX5_namesShip) := goodIn_app (goodIn_of _ (by decide +kernel)) ggX5_sail_X5_namesShip
set_option maxRecDepth 20000 in
theorem ggX5_sail_X4_mayBits : GoodIn wsX5_sail wsX4_mayBits := goodIn_r _ [17, 18, 19, 20, 21, 22, 23, 24, 25, 26, 27, 28, 29, 30, 31, 32, 33, 34, 35, 36, 37, 38, 39, 40, 41, 42, 43, 44, 45, 46, 47, 48, 49, 50, 51, 52, 53, 85, 86, 70, 71, 72, 73, 74, 75, 76, 77, 78, 79, 80, 81, 82, 83, 84] (by decide +kernel) (by decide +kernel)
set_option maxRecDepth 20000 in
theorem gX5_sail_X4_mayBits : GoodIn wsX5_sail (wsV RX5 133 RX4 yX4_mayBits wsX4_mayBits) := goodIn_app (goodIn_of _ (by decide +kernel)) ggX5_sail_X4_mayBits
set_option maxRecDepth 20000 in
theorem ggX5_sail_X0_landing : GoodIn wsX5_sail wsX0_landing := goodIn_r _ [45, 46, 47, 48, 49, 44, 50, 51, 52, 53, 81, 82, 83, 84] (by decide +kernel) (by decide +kernel)
set_option maxRecDepth 20000 in
theorem gX5_sail_X0_landing : GoodIn wsX5_sail (wsV RX5 149 RX0 yX0_landing wsX0_landing) := goodIn_app (goodIn_of _ (by decide +kernel)) ggX5_sail_X0_landing
set_option maxRecDepth 20000 in
theorem ggX5_sail_X2_sailTo : GoodIn wsX5_sail wsX2_sailTo := goodIn_r _ [58, 59, 32, 60, 70, 71, 72, 73, 74, 75, 76, 77, 78, 79, 80] (by decide +kernel) (by decide +kernel)
set_option maxRecDepth 20000 in
theorem gX5_sail_X2_sailTo : GoodIn wsX5_sail (wsV RX5 152 RX2 yX2_sailTo wsX2_sailTo) := goodIn_app (goodIn_of _ (by decide +kernel)) ggX5_sail_X2_sailTo
theorem dX5_sail_0 : decode cX5_sail 0 = .ok (.aload_n 0, 1) := by decide +kernel
theorem dX5_sail_1 : decode cX5_sail 1 = .ok (.iload_n 1, 1) := by decide +kernel
theorem dX5_sail_2 : decode cX5_sail 2 = .ok (.invokevirtual 124, 3) := by decide +kernel
theorem dX5_sail_5 : decode cX5_sail 5 = .ok (.ifCond .eq 12, 3) := by decide +kernel
theorem dX5_sail_8 : decode cX5_sail 8 = .ok (.iload_n 2, 1) := by decide +kernel
theorem dX5_sail_9 : decode cX5_sail 9 = .ok (.ifCond .lt 8, 3) := by decide +kernel
theorem dX5_sail_12 : decode cX5_sail 12 = .ok (.iload_n 2, 1) := by decide +kernel
theorem dX5_sail_13 : decode cX5_sail 13 = .ok (.iconst 4, 1) := by decide +kernel
theorem dX5_sail_14 : decode cX5_sail 14 = .ok (.if_icmp .le 6, 3) := by decide +kernel
theorem dX5_sail_17 : decode cX5_sail 17 = .ok (.bipush (-101), 2) := by decide +kernel
theorem dX5_sail_19 : decode cX5_sail 19 = .ok (.ireturn, 1) := by decide +kernel
theorem dX5_sail_20 : decode cX5_sail 20 = .ok (.aload_n 0, 1) := by decide +kernel
theorem dX5_sail_21 : decode cX5_sail 21 = .ok (.getfield 26, 3) := by decide +kernel
theorem dX5_sail_24 : decode cX5_sail 24 = .ok (.aload_n 0, 1) := by decide +kernel
theorem dX5_sail_25 : decode cX5_sail 25 = .ok (.getfield 38, 3) := by decide +kernel
theorem dX5_sail_28 : decode cX5_sail 28 = .ok (.iload_n 1, 1) := by decide +kernel
theorem dX5_sail_29 : decode cX5_sail 29 = .ok (.invokevirtual 133, 3) := by decide +kernel
theorem dX5_sail_32 : decode cX5_sail 32 = .ok (.iload_n 2, 1) := by decide +kernel
theorem dX5_sail_33 : decode cX5_sail 33 = .ok (.ishr, 1) := by decide +kernel
theorem dX5_sail_34 : decode cX5_sail 34 = .ok (.iconst 1, 1) := by decide +kernel
theorem dX5_sail_35 : decode cX5_sail 35 = .ok (.iand, 1) := by decide +kernel
theorem dX5_sail_36 : decode cX5_sail 36 = .ok (.ifCond .ne 6, 3) := by decide +kernel
theorem dX5_sail_39 : decode cX5_sail 39 = .ok (.bipush (-103), 2) := by decide +kernel
theorem dX5_sail_41 : decode cX5_sail 41 = .ok (.ireturn, 1) := by decide +kernel
theorem dX5_sail_42 : decode cX5_sail 42 = .ok (.aload_n 0, 1) := by decide +kernel
theorem dX5_sail_43 : decode cX5_sail 43 = .ok (.getfield 38, 3) := by decide +kernel
theorem dX5_sail_46 : decode cX5_sail 46 = .ok (.getfield 146, 3) := by decide +kernel
theorem dX5_sail_49 : decode cX5_sail 49 = .ok (.sipush 999, 3) := by decide +kernel
theorem dX5_sail_52 : decode cX5_sail 52 = .ok (.if_icmp .lt 6, 3) := by decide +kernel
theorem dX5_sail_55 : decode cX5_sail 55 = .ok (.bipush (-104), 2) := by decide +kernel
theorem dX5_sail_57 : decode cX5_sail 57 = .ok (.ireturn, 1) := by decide +kernel
theorem dX5_sail_58 : decode cX5_sail 58 = .ok (.aload_n 0, 1) := by decide +kernel
theorem dX5_sail_59 : decode cX5_sail 59 = .ok (.getfield 38, 3) := by decide +kernel
theorem dX5_sail_62 : decode cX5_sail 62 = .ok (.iload_n 1, 1) := by decide +kernel
theorem dX5_sail_63 : decode cX5_sail 63 = .ok (.aload_n 0, 1) := by decide +kernel
theorem dX5_sail_64 : decode cX5_sail 64 = .ok (.getfield 34, 3) := by decide +kernel
theorem dX5_sail_67 : decode cX5_sail 67 = .ok (.aload_n 0, 1) := by decide +kernel
theorem dX5_sail_68 : decode cX5_sail 68 = .ok (.getfield 38, 3) := by decide +kernel
theorem dX5_sail_71 : decode cX5_sail 71 = .ok (.getfield 127, 3) := by decide +kernel
theorem dX5_sail_74 : decode cX5_sail 74 = .ok (.iload_n 1, 1) := by decide +kernel
theorem dX5_sail_75 : decode cX5_sail 75 = .ok (.iaload, 1) := by decide +kernel
theorem dX5_sail_76 : decode cX5_sail 76 = .ok (.iload_n 2, 1) := by decide +kernel
theorem dX5_sail_77 : decode cX5_sail 77 = .ok (.invokevirtual 149, 3) := by decide +kernel
theorem dX5_sail_80 : decode cX5_sail 80 = .ok (.invokevirtual 152, 3) := by decide +kernel
theorem dX5_sail_83 : decode cX5_sail 83 = .ok (.aload_n 0, 1) := by decide +kernel
theorem dX5_sail_84 : decode cX5_sail 84 = .ok (.getfield 38, 3) := by decide +kernel
theorem dX5_sail_87 : decode cX5_sail 87 = .ok (.getfield 127, 3) := by decide +kernel
theorem dX5_sail_90 : decode cX5_sail 90 = .ok (.iload_n 1, 1) := by decide +kernel
theorem dX5_sail_91 : decode cX5_sail 91 = .ok (.iaload, 1) := by decide +kernel
theorem dX5_sail_92 : decode cX5_sail 92 = .ok (.ireturn, 1) := by decide +kernel
set_option maxRecDepth 20000 in
theorem ggX5_day_X2_beginNextDay : GoodIn wsX5_day wsX2_beginNextDay := goodIn_r _ [9, 10, 11, 25, 26, 27, 28, 29, 30, 31, 32, 33, 34, 35] (by decide +kernel) (by decide +kernel)
set_option maxRecDepth 20000 in
theorem gX5_day_X2_beginNextDay : GoodIn wsX5_day (wsV RX5 159 RX2 yX2_beginNextDay wsX2_beginNextDay) := goodIn_app (goodIn_of _ (by decide +kernel)) ggX5_day_X2_beginNextDay
theorem dX5_day_0 : decode cX5_day 0 = .ok (.aload_n 0, 1) := by decide +kernel
theorem dX5_day_1 : decode cX5_day 1 = .ok (.getfield 34, 3) := by decide +kernel
theorem dX5_day_4 : decode cX5_day 4 = .ok (.getfield 156, 3) := by decide +kernel
theorem dX5_day_7 : decode cX5_day 7 = .ok (.ifCond .ne 6, 3) := by decide +kernel
theorem dX5_day_10 : decode cX5_day 10 = .ok (.bipush (-103), 2) := by decide +kernel
theorem dX5_day_12 : decode cX5_day 12 = .ok (.ireturn, 1) := by decide +kernel
theorem dX5_day_13 : decode cX5_day 13 = .ok (.aload_n 0, 1) := by decide +kernel
theorem dX5_day_14 : decode cX5_day 14 = .ok (.getfield 38, 3) := by decide +kernel
theorem dX5_day_17 : decode cX5_day 17 = .ok (.getfield 97, 3) := by decide +kernel
theorem dX5_day_20 : decode cX5_day 20 = .ok (.sipush 999, 3) := by decide +kernel
theorem dX5_day_23 : decode cX5_day 23 = .ok (.if_icmp .lt 6, 3) := by decide +kernel
theorem dX5_day_26 : decode cX5_day 26 = .ok (.bipush (-104), 2) := by decide +kernel
theorem dX5_day_28 : decode cX5_day 28 = .ok (.ireturn, 1) := by decide +kernel
theorem dX5_day_29 : decode cX5_day 29 = .ok (.aload_n 0, 1) := by decide +kernel
theorem dX5_day_30 : decode cX5_day 30 = .ok (.getfield 38, 3) := by decide +kernel
theorem dX5_day_33 : decode cX5_day 33 = .ok (.invokevirtual 159, 3) := by decide +kernel
theorem dX5_day_36 : decode cX5_day 36 = .ok (.aload_n 0, 1) := by decide +kernel
theorem dX5_day_37 : decode cX5_day 37 = .ok (.getfield 38, 3) := by decide +kernel
theorem dX5_day_40 : decode cX5_day 40 = .ok (.getfield 97, 3) := by decide +kernel
theorem dX5_day_43 : decode cX5_day 43 = .ok (.ireturn, 1) := by decide +kernel
set_option maxRecDepth 20000 in
theorem ggX5_ail_X5_namesLodger : GoodIn wsX5_ail wsX5_namesLodger := goodIn_r _ [8, 9, 10, 22, 23, 24, 25, 26, 27, 28, 29, 30, 42, 43, 44, 45] (by decide +kernel) (by decide +kernel)
set_option maxRecDepth 20000 in
theorem gX5_ail_X5_namesLodger : GoodIn wsX5_ail (wsV RX5 86 RX5 yX5_namesLodger wsX5_namesLodger) := goodIn_app (goodIn_of _ (by decide +kernel)) ggX5_ail_X5_namesLodger
set_option maxRecDepth 20000 in
theorem ggX5_ail_X2_illFor : GoodIn wsX5_ail wsX2_illFor := goodIn_r _ [15, 16, 17, 18, 19, 20, 21, 31, 32, 33, 34, 35, 36, 37, 38, 39, 40, 41] (by decide +kernel) (by decide +kernel)
set_option maxRecDepth 20000 in
theorem gX5_ail_X2_illFor : GoodIn wsX5_ail (wsV RX5 93 RX2 yX2_illFor wsX2_illFor) := goodIn_app (goodIn_of _ (by decide +kernel)) ggX5_ail_X2_illFor
theorem dX5_ail_0 : decode cX5_ail 0 = .ok (.aload_n 0, 1) := by decide +kernel
theorem dX5_ail_1 : decode cX5_ail 1 = .ok (.iload_n 1, 1) := by decide +kernel
theorem dX5_ail_2 : decode cX5_ail 2 = .ok (.invokevirtual 86, 3) := by decide +kernel
theorem dX5_ail_5 : decode cX5_ail 5 = .ok (.ifCond .ne 6, 3) := by decide +kernel
theorem dX5_ail_8 : decode cX5_ail 8 = .ok (.bipush (-101), 2) := by decide +kernel
theorem dX5_ail_10 : decode cX5_ail 10 = .ok (.ireturn, 1) := by decide +kernel
theorem dX5_ail_11 : decode cX5_ail 11 = .ok (.iload_n 2, 1) := by decide +kernel
theorem dX5_ail_12 : decode cX5_ail 12 = .ok (.ifCond .lt 9, 3) := by decide +kernel
theorem dX5_ail_15 : decode cX5_ail 15 = .ok (.iload_n 2, 1) := by decide +kernel
theorem dX5_ail_16 : decode cX5_ail 16 = .ok (.bipush 40, 2) := by decide +kernel
theorem dX5_ail_18 : decode cX5_ail 18 = .ok (.if_icmp .le 6, 3) := by decide +kernel
theorem dX5_ail_21 : decode cX5_ail 21 = .ok (.bipush (-102), 2) := by decide +kernel
theorem dX5_ail_23 : decode cX5_ail 23 = .ok (.ireturn, 1) := by decide +kernel
theorem dX5_ail_24 : decode cX5_ail 24 = .ok (.aload_n 0, 1) := by decide +kernel
theorem dX5_ail_25 : decode cX5_ail 25 = .ok (.getfield 38, 3) := by decide +kernel
theorem dX5_ail_28 : decode cX5_ail 28 = .ok (.iload_n 1, 1) := by decide +kernel
theorem dX5_ail_29 : decode cX5_ail 29 = .ok (.invokevirtual 93, 3) := by decide +kernel
theorem dX5_ail_32 : decode cX5_ail 32 = .ok (.istore_n 3, 1) := by decide +kernel
theorem dX5_ail_33 : decode cX5_ail 33 = .ok (.aload_n 0, 1) := by decide +kernel
theorem dX5_ail_34 : decode cX5_ail 34 = .ok (.getfield 38, 3) := by decide +kernel
theorem dX5_ail_37 : decode cX5_ail 37 = .ok (.getfield 162, 3) := by decide +kernel
theorem dX5_ail_40 : decode cX5_ail 40 = .ok (.iload_n 1, 1) := by decide +kernel
theorem dX5_ail_41 : decode cX5_ail 41 = .ok (.aload_n 0, 1) := by decide +kernel
theorem dX5_ail_42 : decode cX5_ail 42 = .ok (.getfield 38, 3) := by decide +kernel
theorem dX5_ail_45 : decode cX5_ail 45 = .ok (.getfield 97, 3) := by decide +kernel
theorem dX5_ail_48 : decode cX5_ail 48 = .ok (.iload_n 2, 1) := by decide +kernel
theorem dX5_ail_49 : decode cX5_ail 49 = .ok (.iadd, 1) := by decide +kernel
theorem dX5_ail_50 : decode cX5_ail 50 = .ok (.iastore, 1) := by decide +kernel
theorem dX5_ail_51 : decode cX5_ail 51 = .ok (.iload_n 3, 1) := by decide +kernel
theorem dX5_ail_52 : decode cX5_ail 52 = .ok (.ireturn, 1) := by decide +kernel
set_option maxRecDepth 20000 in
theorem ggX5_let_X5_namesLodger : GoodIn wsX5_let wsX5_namesLodger := goodIn_r _ [7, 8, 9, 13, 14, 15, 16, 17, 18, 19, 20, 21, 33, 34, 35, 36] (by decide +kernel) (by decide +kernel)
set_option maxRecDepth 20000 in
theorem gX5_let_X5_namesLodger : GoodIn wsX5_let (wsV RX5 86 RX5 yX5_namesLodger wsX5_namesLodger) := goodIn_app (goodIn_of _ (by decide +kernel)) ggX5_let_X5_namesLodger
set_option maxRecDepth 20000 in
theorem ggX5_let_X5_isKind : GoodIn wsX5_let wsX5_isKind := goodIn_r _ [12] (by decide +kernel) (by decide +kernel)
set_option maxRecDepth 20000 in
theorem gX5_let_X5_isKind : GoodIn wsX5_let (va_wsS RX5 118 yX5_isKind wsX5_isKind) := goodIn_app (goodIn_of _ (by decide +kernel)) ggX5_let_X5_isKind
theorem dX5_let_0 : decode cX5_let 0 = .ok (.aload_n 0, 1) := by decide +kernel
theorem dX5_let_1 : decode cX5_let 1 = .ok (.iload_n 1, 1) := by decide +kernel
theorem dX5_let_2 : decode cX5_let 2 = .ok (.invokevirtual 86, 3) := by decide +kernel
theorem dX5_let_5 : decode cX5_let 5 = .ok (.ifCond .ne 6, 3) := by decide +kernel
theorem dX5_let_8 : decode cX5_let 8 = .ok (.bipush (-101), 2) := by decide +kernel
theorem dX5_let_10 : decode cX5_let 10 = .ok (.ireturn, 1) := by decide +kernel
theorem dX5_let_11 : decode cX5_let 11 = .ok (.iload_n 2, 1) := by decide +kernel
theorem dX5_let_12 : decode cX5_let 12 = .ok (.invokestatic 118, 3) := by decide +kernel
theorem dX5_let_15 : decode cX5_let 15 = .ok (.ifCond .ne 6, 3) := by decide +kernel
theorem dX5_let_18 : decode cX5_let 18 = .ok (.bipush (-102), 2) := by decide +kernel
theorem dX5_let_20 : decode cX5_let 20 = .ok (.ireturn, 1) := by decide +kernel
theorem dX5_let_21 : decode cX5_let 21 = .ok (.aload_n 0, 1) := by decide +kernel
theorem dX5_let_22 : decode cX5_let 22 = .ok (.getfield 38, 3) := by decide +kernel
theorem dX5_let_25 : decode cX5_let 25 = .ok (.getfield 89, 3) := by decide +kernel
theorem dX5_let_28 : decode cX5_let 28 = .ok (.iload_n 1, 1) := by decide +kernel
theorem dX5_let_29 : decode cX5_let 29 = .ok (.iaload, 1) := by decide +kernel
theorem dX5_let_30 : decode cX5_let 30 = .ok (.istore_n 3, 1) := by decide +kernel
theorem dX5_let_31 : decode cX5_let 31 = .ok (.aload_n 0, 1) := by decide +kernel
theorem dX5_let_32 : decode cX5_let 32 = .ok (.getfield 38, 3) := by decide +kernel
theorem dX5_let_35 : decode cX5_let 35 = .ok (.getfield 89, 3) := by decide +kernel
theorem dX5_let_38 : decode cX5_let 38 = .ok (.iload_n 1, 1) := by decide +kernel
theorem dX5_let_39 : decode cX5_let 39 = .ok (.iload_n 2, 1) := by decide +kernel
theorem dX5_let_40 : decode cX5_let 40 = .ok (.iastore, 1) := by decide +kernel
theorem dX5_let_41 : decode cX5_let 41 = .ok (.iload_n 3, 1) := by decide +kernel
theorem dX5_let_42 : decode cX5_let 42 = .ok (.ireturn, 1) := by decide +kernel
set_option maxRecDepth 20000 in
theorem ggX5_hire_X5_asBit : GoodIn wsX5_hire wsX5_asBit := goodIn_r _ [8] (by decide +kernel) (by decide +kernel)
set_option maxRecDepth 20000 in
theorem gX5_hire_X5_asBit : GoodIn wsX5_hire (va_wsS RX5 104 yX5_asBit wsX5_asBit) := goodIn_app (goodIn_of _ (by decide +kernel)) ggX5_hire_X5_asBit
theorem dX5_hire_0 : decode cX5_hire 0 = .ok (.aload_n 0, 1) := by decide +kernel
theorem dX5_hire_1 : decode cX5_hire 1 = .ok (.getfield 34, 3) := by decide +kernel
theorem dX5_hire_4 : decode cX5_hire 4 = .ok (.getfield 156, 3) := by decide +kernel
theorem dX5_hire_7 : decode cX5_hire 7 = .ok (.ifCond .ne 6, 3) := by decide +kernel
theorem dX5_hire_10 : decode cX5_hire 10 = .ok (.bipush (-103), 2) := by decide +kernel
theorem dX5_hire_12 : decode cX5_hire 12 = .ok (.ireturn, 1) := by decide +kernel
theorem dX5_hire_13 : decode cX5_hire 13 = .ok (.aload_n 0, 1) := by decide +kernel
theorem dX5_hire_14 : decode cX5_hire 14 = .ok (.getfield 38, 3) := by decide +kernel
theorem dX5_hire_17 : decode cX5_hire 17 = .ok (.aload_n 0, 1) := by decide +kernel
theorem dX5_hire_18 : decode cX5_hire 18 = .ok (.getfield 38, 3) := by decide +kernel
theorem dX5_hire_21 : decode cX5_hire 21 = .ok (.getfield 165, 3) := by decide +kernel
theorem dX5_hire_24 : decode cX5_hire 24 = .ok (.ifCond .ne 7, 3) := by decide +kernel
theorem dX5_hire_27 : decode cX5_hire 27 = .ok (.iconst 1, 1) := by decide +kernel
theorem dX5_hire_28 : decode cX5_hire 28 = .ok (.goto 4, 3) := by decide +kernel
theorem dX5_hire_31 : decode cX5_hire 31 = .ok (.iconst 0, 1) := by decide +kernel
theorem dX5_hire_32 : decode cX5_hire 32 = .ok (.putfield 165, 3) := by decide +kernel
theorem dX5_hire_35 : decode cX5_hire 35 = .ok (.aload_n 0, 1) := by decide +kernel
theorem dX5_hire_36 : decode cX5_hire 36 = .ok (.getfield 38, 3) := by decide +kernel
theorem dX5_hire_39 : decode cX5_hire 39 = .ok (.getfield 165, 3) := by decide +kernel
theorem dX5_hire_42 : decode cX5_hire 42 = .ok (.invokestatic 104, 3) := by decide +kernel
theorem dX5_hire_45 : decode cX5_hire 45 = .ok (.ireturn, 1) := by decide +kernel
set_option maxRecDepth 20000 in
theorem ggX5_can_X5_namesShip : GoodIn wsX5_can wsX5_namesShip := goodIn_r _ [7, 8, 9, 10, 59, 60, 61, 62, 63, 64, 65, 66, 67, 68, 69, 70, 71] (by decide +kernel) (by decide +kernel)
set_option maxRecDepth 20000 in
theorem gX5_can_X5_namesShip : GoodIn wsX5_can (wsV RX5 124 RX5 yX5_namesShip wsX5_namesShip) := goodIn_app (goodIn_of _ (by decide +kernel)) ggX5_can_X5_namesShip
set_option maxRecDepth 20000 in
theorem ggX5_can_X5_namesCell : GoodIn wsX5_can wsX5_namesCell := goodIn_r _ [14, 8, 9, 59, 60, 61, 62, 63, 64, 65, 66, 67, 68, 69, 70, 71] (by decide +kernel) (by decide +kernel)
set_option maxRecDepth 20000 in
theorem gX5_can_X5_namesCell : GoodIn wsX5_can (wsV RX5 137 RX5 yX5_namesCell wsX5_namesCell) := goodIn_app (goodIn_of _ (by decide +kernel)) ggX5_can_X5_namesCell
set_option maxRecDepth 20000 in
theorem ggX5_can_X4_placesAfter : GoodIn wsX5_can wsX4_placesAfter := goodIn_r _ [19, 20, 21, 22, 23, 24, 25, 26, 27, 28, 29, 30, 31, 32, 33, 34, 35, 36, 37, 38, 39, 40, 41, 42, 43, 44, 45, 46, 47, 48, 49, 50, 51, 52, 53, 54, 55, 72, 73, 74, 75, 76, 77, 78, 79, 80, 81, 82, 83, 84, 68, 69, 70, 71] (by decide +kernel) (by decide +kernel)
set_option maxRecDepth 20000 in
theorem gX5_can_X4_placesAfter : GoodIn wsX5_can (wsV RX5 168 RX4 yX4_placesAfter wsX4_placesAfter) := goodIn_app (goodIn_of _ (by decide +kernel)) ggX5_can_X4_placesAfter
set_option maxRecDepth 20000 in
theorem ggX5_can_X5_asBit : GoodIn wsX5_can wsX5_asBit := goodIn_r _ [58] (by decide +kernel) (by decide +kernel)
set_option maxRecDepth 20000 in
theorem gX5_can_X5_asBit : GoodIn wsX5_can (va_wsS RX5 104 yX5_asBit wsX5_asBit) := goodIn_app (goodIn_of _ (by decide +kernel)) ggX5_can_X5_asBit
theorem dX5_can_0 : decode cX5_can 0 = .ok (.aload_n 0, 1) := by decide +kernel
theorem dX5_can_1 : decode cX5_can 1 = .ok (.iload_n 1, 1) := by decide +kernel
theorem dX5_can_2 : decode cX5_can 2 = .ok (.invokevirtual 124, 3) := by decide +kernel
theorem dX5_can_5 : decode cX5_can 5 = .ok (.ifCond .eq 11, 3) := by decide +kernel
theorem dX5_can_8 : decode cX5_can 8 = .ok (.aload_n 0, 1) := by decide +kernel
theorem dX5_can_9 : decode cX5_can 9 = .ok (.iload_n 2, 1) := by decide +kernel
theorem dX5_can_10 : decode cX5_can 10 = .ok (.invokevirtual 137, 3) := by decide +kernel
theorem dX5_can_13 : decode cX5_can 13 = .ok (.ifCond .ne 6, 3) := by decide +kernel
theorem dX5_can_16 : decode cX5_can 16 = .ok (.bipush (-101), 2) := by decide +kernel
theorem dX5_can_18 : decode cX5_can 18 = .ok (.ireturn, 1) := by decide +kernel
theorem dX5_can_19 : decode cX5_can 19 = .ok (.iload_n 3, 1) := by decide +kernel
theorem dX5_can_20 : decode cX5_can 20 = .ok (.ifCond .lt 9, 3) := by decide +kernel
theorem dX5_can_23 : decode cX5_can 23 = .ok (.iload_n 3, 1) := by decide +kernel
theorem dX5_can_24 : decode cX5_can 24 = .ok (.bipush 40, 2) := by decide +kernel
theorem dX5_can_26 : decode cX5_can 26 = .ok (.if_icmp .le 6, 3) := by decide +kernel
theorem dX5_can_29 : decode cX5_can 29 = .ok (.bipush (-102), 2) := by decide +kernel
theorem dX5_can_31 : decode cX5_can 31 = .ok (.ireturn, 1) := by decide +kernel
theorem dX5_can_32 : decode cX5_can 32 = .ok (.aload_n 0, 1) := by decide +kernel
theorem dX5_can_33 : decode cX5_can 33 = .ok (.getfield 26, 3) := by decide +kernel
theorem dX5_can_36 : decode cX5_can 36 = .ok (.aload_n 0, 1) := by decide +kernel
theorem dX5_can_37 : decode cX5_can 37 = .ok (.getfield 38, 3) := by decide +kernel
theorem dX5_can_40 : decode cX5_can 40 = .ok (.iload_n 1, 1) := by decide +kernel
theorem dX5_can_41 : decode cX5_can 41 = .ok (.iload_n 3, 1) := by decide +kernel
theorem dX5_can_42 : decode cX5_can 42 = .ok (.invokevirtual 168, 3) := by decide +kernel
theorem dX5_can_45 : decode cX5_can 45 = .ok (.iload_n 2, 1) := by decide +kernel
theorem dX5_can_46 : decode cX5_can 46 = .ok (.lshr, 1) := by decide +kernel
theorem dX5_can_47 : decode cX5_can 47 = .ok (.lconst 1, 1) := by decide +kernel
theorem dX5_can_48 : decode cX5_can 48 = .ok (.land, 1) := by decide +kernel
theorem dX5_can_49 : decode cX5_can 49 = .ok (.lconst 0, 1) := by decide +kernel
theorem dX5_can_50 : decode cX5_can 50 = .ok (.lcmp, 1) := by decide +kernel
theorem dX5_can_51 : decode cX5_can 51 = .ok (.ifCond .eq 7, 3) := by decide +kernel
theorem dX5_can_54 : decode cX5_can 54 = .ok (.iconst 1, 1) := by decide +kernel
theorem dX5_can_55 : decode cX5_can 55 = .ok (.goto 4, 3) := by decide +kernel
theorem dX5_can_58 : decode cX5_can 58 = .ok (.iconst 0, 1) := by decide +kernel
theorem dX5_can_59 : decode cX5_can 59 = .ok (.invokestatic 104, 3) := by decide +kernel
theorem dX5_can_62 : decode cX5_can 62 = .ok (.ireturn, 1) := by decide +kernel
set_option maxRecDepth 20000 in
theorem ggX5_soon_X5_namesShip : GoodIn wsX5_soon wsX5_namesShip := goodIn_r _ [7, 8, 9, 10, 83, 84, 85, 86, 87, 88, 89, 90, 91, 92, 93, 94, 95] (by decide +kernel) (by decide +kernel)
set_option maxRecDepth 20000 in
theorem gX5_soon_X5_namesShip : GoodIn wsX5_soon (wsV RX5 124 RX5 yX5_namesShip wsX5_namesShip) := goodIn_app (goodIn_of _ (by decide +kernel)) ggX5_soon_X5_namesShip
set_option maxRecDepth 20000 in
theorem ggX5_soon_X5_namesCell : GoodIn wsX5_soon wsX5_namesCell := goodIn_r _ [14, 8, 9, 83, 84, 85, 86, 87, 88, 89, 90, 91, 92, 93, 94, 95] (by decide +kernel) (by decide +kernel)
set_option maxRecDepth 20000 in
theorem gX5_soon_X5_namesCell : GoodIn wsX5_soon (wsV RX5 137 RX5 yX5_namesCell wsX5_namesCell) := goodIn_app (goodIn_of _ (by decide +kernel)) ggX5_soon_X5_namesCell
set_option maxRecDepth 20000 in
theorem ggX5_soon_X4_daysTo : GoodIn wsX5_soon wsX4_daysTo := goodIn_r _ [19, 20, 21, 22, 23, 24, 25, 26, 27, 28, 29, 30, 31, 32, 33, 34, 35, 36, 37, 38, 39, 40, 41, 42, 43, 44, 45, 46, 47, 48, 49, 50, 51, 52, 53, 54, 55, 96, 97, 98, 99, 100, 101, 102, 103, 104, 105, 106, 107, 108, 92, 93, 94, 95] (by decide +kernel) (by decide +kernel)
set_option maxRecDepth 20000 in
theorem gX5_soon_X4_daysTo : GoodIn wsX5_soon (wsV RX5 172 RX4 yX4_daysTo wsX4_daysTo) := goodIn_app (goodIn_of _ (by decide +kernel)) ggX5_soon_X4_daysTo
set_option maxRecDepth 20000 in
theorem ggX5_soon_X4_helmOn : GoodIn wsX5_soon wsX4_helmOn := goodIn_r _ [59, 20, 60, 21, 61, 16, 17, 18, 19, 22, 23, 24, 25, 26, 27, 28, 29, 30, 31, 32, 33, 34, 35, 36, 37, 38, 39, 40, 41, 42, 43, 44, 45, 46, 47, 48, 49, 50, 51, 52, 53, 54, 55, 62, 63, 64, 65, 66, 67, 68, 69, 70, 71, 72, 73, 74, 75, 76, 77, 78, 79, 80, 81, 82, 96, 97, 98, 99, 100, 101, 102, 103, 104, 105, 106, 107, 108, 92, 93, 94, 95] (by decide +kernel) (by decide +kernel)
set_option maxRecDepth 20000 in
theorem gX5_soon_X4_helmOn : GoodIn wsX5_soon (wsV RX5 176 RX4 yX4_helmOn wsX4_helmOn) := goodIn_app (goodIn_of _ (by decide +kernel)) ggX5_soon_X4_helmOn
theorem dX5_soon_0 : decode cX5_soon 0 = .ok (.aload_n 0, 1) := by decide +kernel
theorem dX5_soon_1 : decode cX5_soon 1 = .ok (.iload_n 1, 1) := by decide +kernel
theorem dX5_soon_2 : decode cX5_soon 2 = .ok (.invokevirtual 124, 3) := by decide +kernel
theorem dX5_soon_5 : decode cX5_soon 5 = .ok (.ifCond .eq 11, 3) := by decide +kernel
theorem dX5_soon_8 : decode cX5_soon 8 = .ok (.aload_n 0, 1) := by decide +kernel
theorem dX5_soon_9 : decode cX5_soon 9 = .ok (.iload_n 2, 1) := by decide +kernel
theorem dX5_soon_10 : decode cX5_soon 10 = .ok (.invokevirtual 137, 3) := by decide +kernel
theorem dX5_soon_13 : decode cX5_soon 13 = .ok (.ifCond .ne 6, 3) := by decide +kernel
theorem dX5_soon_16 : decode cX5_soon 16 = .ok (.bipush (-101), 2) := by decide +kernel
theorem dX5_soon_18 : decode cX5_soon 18 = .ok (.ireturn, 1) := by decide +kernel
theorem dX5_soon_19 : decode cX5_soon 19 = .ok (.iload_n 3, 1) := by decide +kernel
theorem dX5_soon_20 : decode cX5_soon 20 = .ok (.ifCond .ne 17, 3) := by decide +kernel
theorem dX5_soon_23 : decode cX5_soon 23 = .ok (.aload_n 0, 1) := by decide +kernel
theorem dX5_soon_24 : decode cX5_soon 24 = .ok (.getfield 26, 3) := by decide +kernel
theorem dX5_soon_27 : decode cX5_soon 27 = .ok (.aload_n 0, 1) := by decide +kernel
theorem dX5_soon_28 : decode cX5_soon 28 = .ok (.getfield 38, 3) := by decide +kernel
theorem dX5_soon_31 : decode cX5_soon 31 = .ok (.iload_n 1, 1) := by decide +kernel
theorem dX5_soon_32 : decode cX5_soon 32 = .ok (.iload_n 2, 1) := by decide +kernel
theorem dX5_soon_33 : decode cX5_soon 33 = .ok (.invokevirtual 172, 3) := by decide +kernel
theorem dX5_soon_36 : decode cX5_soon 36 = .ok (.ireturn, 1) := by decide +kernel
theorem dX5_soon_37 : decode cX5_soon 37 = .ok (.iload_n 3, 1) := by decide +kernel
theorem dX5_soon_38 : decode cX5_soon 38 = .ok (.bipush 10, 2) := by decide +kernel
theorem dX5_soon_40 : decode cX5_soon 40 = .ok (.if_icmp .lt 9, 3) := by decide +kernel
theorem dX5_soon_43 : decode cX5_soon 43 = .ok (.iload_n 3, 1) := by decide +kernel
theorem dX5_soon_44 : decode cX5_soon 44 = .ok (.bipush 17, 2) := by decide +kernel
theorem dX5_soon_46 : decode cX5_soon 46 = .ok (.if_icmp .le 6, 3) := by decide +kernel
theorem dX5_soon_49 : decode cX5_soon 49 = .ok (.bipush (-102), 2) := by decide +kernel
theorem dX5_soon_51 : decode cX5_soon 51 = .ok (.ireturn, 1) := by decide +kernel
theorem dX5_soon_52 : decode cX5_soon 52 = .ok (.aload_n 0, 1) := by decide +kernel
theorem dX5_soon_53 : decode cX5_soon 53 = .ok (.getfield 26, 3) := by decide +kernel
theorem dX5_soon_56 : decode cX5_soon 56 = .ok (.aload_n 0, 1) := by decide +kernel
theorem dX5_soon_57 : decode cX5_soon 57 = .ok (.getfield 38, 3) := by decide +kernel
theorem dX5_soon_60 : decode cX5_soon 60 = .ok (.iload_n 1, 1) := by decide +kernel
theorem dX5_soon_61 : decode cX5_soon 61 = .ok (.iload_n 2, 1) := by decide +kernel
theorem dX5_soon_62 : decode cX5_soon 62 = .ok (.iload_n 3, 1) := by decide +kernel
theorem dX5_soon_63 : decode cX5_soon 63 = .ok (.bipush 10, 2) := by decide +kernel
theorem dX5_soon_65 : decode cX5_soon 65 = .ok (.isub, 1) := by decide +kernel
theorem dX5_soon_66 : decode cX5_soon 66 = .ok (.invokevirtual 176, 3) := by decide +kernel
theorem dX5_soon_69 : decode cX5_soon 69 = .ok (.ireturn, 1) := by decide +kernel
set_option maxRecDepth 20000 in
theorem ggX5_meet_X5_namesShip : GoodIn wsX5_meet wsX5_namesShip := goodIn_r _ [7, 8, 9, 10, 52, 53, 54, 55, 56, 57, 58, 59, 60, 61, 62, 63, 64] (by decide +kernel) (by decide +kernel)
set_option maxRecDepth 20000 in
theorem gX5_meet_X5_namesShip : GoodIn wsX5_meet (wsV RX5 124 RX5 yX5_namesShip wsX5_namesShip) := goodIn_app (goodIn_of _ (by decide +kernel)) ggX5_meet_X5_namesShip
set_option maxRecDepth 20000 in
theorem ggX5_meet_X4_daysToMeet : GoodIn wsX5_meet wsX4_daysToMeet := goodIn_r _ [15, 16, 17, 18, 19, 20, 21, 22, 23, 24, 25, 26, 27, 28, 29, 30, 31, 32, 33, 34, 35, 36, 37, 38, 39, 40, 41, 42, 43, 44, 45, 46, 47, 48, 49, 50, 51, 65, 66, 67, 68, 69, 70, 71, 72, 73, 74, 75, 76, 77, 61, 62, 63, 64] (by decide +kernel) (by decide +kernel)
set_option maxRecDepth 20000 in
theorem gX5_meet_X4_daysToMeet : GoodIn wsX5_meet (wsV RX5 180 RX4 yX4_daysToMeet wsX4_daysToMeet) := goodIn_app (goodIn_of _ (by decide +kernel)) ggX5_meet_X4_daysToMeet
theorem dX5_meet_0 : decode cX5_meet 0 = .ok (.aload_n 0, 1) := by decide +kernel
theorem dX5_meet_1 : decode cX5_meet 1 = .ok (.iload_n 1, 1) := by decide +kernel
theorem dX5_meet_2 : decode cX5_meet 2 = .ok (.invokevirtual 124, 3) := by decide +kernel
theorem dX5_meet_5 : decode cX5_meet 5 = .ok (.ifCond .eq 16, 3) := by decide +kernel
theorem dX5_meet_8 : decode cX5_meet 8 = .ok (.aload_n 0, 1) := by decide +kernel
theorem dX5_meet_9 : decode cX5_meet 9 = .ok (.iload_n 2, 1) := by decide +kernel
theorem dX5_meet_10 : decode cX5_meet 10 = .ok (.invokevirtual 124, 3) := by decide +kernel
theorem dX5_meet_13 : decode cX5_meet 13 = .ok (.ifCond .eq 8, 3) := by decide +kernel
theorem dX5_meet_16 : decode cX5_meet 16 = .ok (.iload_n 1, 1) := by decide +kernel
theorem dX5_meet_17 : decode cX5_meet 17 = .ok (.iload_n 2, 1) := by decide +kernel
theorem dX5_meet_18 : decode cX5_meet 18 = .ok (.if_icmp .ne 6, 3) := by decide +kernel
theorem dX5_meet_21 : decode cX5_meet 21 = .ok (.bipush (-101), 2) := by decide +kernel
theorem dX5_meet_23 : decode cX5_meet 23 = .ok (.ireturn, 1) := by decide +kernel
theorem dX5_meet_24 : decode cX5_meet 24 = .ok (.aload_n 0, 1) := by decide +kernel
theorem dX5_meet_25 : decode cX5_meet 25 = .ok (.getfield 26, 3) := by decide +kernel
theorem dX5_meet_28 : decode cX5_meet 28 = .ok (.aload_n 0, 1) := by decide +kernel
theorem dX5_meet_29 : decode cX5_meet 29 = .ok (.getfield 38, 3) := by decide +kernel
theorem dX5_meet_32 : decode cX5_meet 32 = .ok (.iload_n 1, 1) := by decide +kernel
theorem dX5_meet_33 : decode cX5_meet 33 = .ok (.iload_n 2, 1) := by decide +kernel
theorem dX5_meet_34 : decode cX5_meet 34 = .ok (.invokevirtual 180, 3) := by decide +kernel
theorem dX5_meet_37 : decode cX5_meet 37 = .ok (.ireturn, 1) := by decide +kernel
set_option maxRecDepth 20000 in
theorem ggX5_needed_X5_namesShip : GoodIn wsX5_needed wsX5_namesShip := goodIn_r _ [12, 13, 14, 15, 85, 86, 87, 88, 89, 90, 91, 92, 93, 105, 106, 107, 108] (by decide +kernel) (by decide +kernel)
set_option maxRecDepth 20000 in
theorem gX5_needed_X5_namesShip : GoodIn wsX5_needed (wsV RX5 124 RX5 yX5_namesShip wsX5_namesShip) := goodIn_app (goodIn_of _ (by decide +kernel)) ggX5_needed_X5_namesShip
set_option maxRecDepth 20000 in
theorem ggX5_needed_X5_namesCell : GoodIn wsX5_needed wsX5_namesCell := goodIn_r _ [19, 13, 14, 85, 86, 87, 88, 89, 90, 91, 92, 93, 105, 106, 107, 108] (by decide +kernel) (by decide +kernel)
set_option maxRecDepth 20000 in
theorem gX5_needed_X5_namesCell : GoodIn wsX5_needed (wsV RX5 137 RX5 yX5_namesCell wsX5_namesCell) := goodIn_app (goodIn_of _ (by decide +kernel)) ggX5_needed_X5_namesCell
set_option maxRecDepth 20000 in
theorem ggX5_needed_X5_daysIfIllUntil : GoodIn wsX5_needed wsX5_daysIfIllUntil := goodIn_r _ [23, 24, 1, 2, 25, 26, 27, 28, 29, 30, 31, 32, 33, 34, 35, 36, 37, 38, 39, 40, 41, 42, 43, 44, 45, 46, 47, 48, 49, 50, 51, 52, 53, 54, 55, 56, 57, 58, 59, 60, 61, 62, 63, 64, 65, 66, 67, 68, 69, 70, 71, 72, 73, 74, 75, 76, 77, 78, 79, 80, 85, 86, 87, 88, 89, 90, 91, 92, 93, 94, 95, 96, 97, 98, 99, 100, 101, 102, 103, 104, 109, 110, 105, 106, 107, 108] (by decide +kernel) (by decide +kernel)
set_option maxRecDepth 20000 in
theorem gX5_needed_X5_daysIfIllUntil : GoodIn wsX5_needed (wsV RX5 188 RX5 yX5_daysIfIllUntil wsX5_daysIfIllUntil) := goodIn_app (goodIn_of _ (by decide +kernel)) ggX5_needed_X5_daysIfIllUntil
set_option maxRecDepth 20000 in
theorem ggX5_needed_X5_endlessIfNone : GoodIn wsX5_needed wsX5_endlessIfNone := goodIn_r _ [83, 84] (by decide +kernel) (by decide +kernel)
set_option maxRecDepth 20000 in
theorem gX5_needed_X5_endlessIfNone : GoodIn wsX5_needed (va_wsS RX5 192 yX5_endlessIfNone wsX5_endlessIfNone) := goodIn_app (goodIn_of _ (by decide +kernel)) ggX5_needed_X5_endlessIfNone
theorem dX5_needed_0 : decode cX5_needed 0 = .ok (.aload_n 0, 1) := by decide +kernel
theorem dX5_needed_1 : decode cX5_needed 1 = .ok (.iload_n 1, 1) := by decide +kernel
theorem dX5_needed_2 : decode cX5_needed 2 = .ok (.invokevirtual 124, 3) := by decide +kernel
theorem dX5_needed_5 : decode cX5_needed 5 = .ok (.ifCond .eq 11, 3) := by decide +kernel
theorem dX5_needed_8 : decode cX5_needed 8 = .ok (.aload_n 0, 1) := by decide +kernel
theorem dX5_needed_9 : decode cX5_needed 9 = .ok (.iload_n 2, 1) := by decide +kernel
theorem dX5_needed_10 : decode cX5_needed 10 = .ok (.invokevirtual 137, 3) := by decide +kernel
theorem dX5_needed_13 : decode cX5_needed 13 = .ok (.ifCond .ne 6, 3) := by decide +kernel
theorem dX5_needed_16 : decode cX5_needed 16 = .ok (.bipush (-101), 2) := by decide +kernel
theorem dX5_needed_18 : decode cX5_needed 18 = .ok (.ireturn, 1) := by decide +kernel
theorem dX5_needed_19 : decode cX5_needed 19 = .ok (.iconst 0, 1) := by decide +kernel
theorem dX5_needed_20 : decode cX5_needed 20 = .ok (.istore_n 3, 1) := by decide +kernel
theorem dX5_needed_21 : decode cX5_needed 21 = .ok (.iconst (-1), 1) := by decide +kernel
theorem dX5_needed_22 : decode cX5_needed 22 = .ok (.istore 4, 2) := by decide +kernel
theorem dX5_needed_24 : decode cX5_needed 24 = .ok (.iconst 0, 1) := by decide +kernel
theorem dX5_needed_25 : decode cX5_needed 25 = .ok (.istore 5, 2) := by decide +kernel
theorem dX5_needed_27 : decode cX5_needed 27 = .ok (.iload 5, 2) := by decide +kernel
theorem dX5_needed_29 : decode cX5_needed 29 = .ok (.iconst 4, 1) := by decide +kernel
theorem dX5_needed_30 : decode cX5_needed 30 = .ok (.if_icmp .ge 63, 3) := by decide +kernel
theorem dX5_needed_33 : decode cX5_needed 33 = .ok (.aload_n 0, 1) := by decide +kernel
theorem dX5_needed_34 : decode cX5_needed 34 = .ok (.getfield 38, 3) := by decide +kernel
theorem dX5_needed_37 : decode cX5_needed 37 = .ok (.getfield 162, 3) := by decide +kernel
theorem dX5_needed_40 : decode cX5_needed 40 = .ok (.iload 5, 2) := by decide +kernel
theorem dX5_needed_42 : decode cX5_needed 42 = .ok (.iaload, 1) := by decide +kernel
theorem dX5_needed_43 : decode cX5_needed 43 = .ok (.aload_n 0, 1) := by decide +kernel
theorem dX5_needed_44 : decode cX5_needed 44 = .ok (.getfield 38, 3) := by decide +kernel
theorem dX5_needed_47 : decode cX5_needed 47 = .ok (.getfield 97, 3) := by decide +kernel
theorem dX5_needed_50 : decode cX5_needed 50 = .ok (.bipush 7, 2) := by decide +kernel
theorem dX5_needed_52 : decode cX5_needed 52 = .ok (.iadd, 1) := by decide +kernel
theorem dX5_needed_53 : decode cX5_needed 53 = .ok (.invokestatic 183, 3) := by decide +kernel
theorem dX5_needed_56 : decode cX5_needed 56 = .ok (.istore 6, 2) := by decide +kernel
theorem dX5_needed_58 : decode cX5_needed 58 = .ok (.aload_n 0, 1) := by decide +kernel
theorem dX5_needed_59 : decode cX5_needed 59 = .ok (.iload 5, 2) := by decide +kernel
theorem dX5_needed_61 : decode cX5_needed 61 = .ok (.iload 6, 2) := by decide +kernel
theorem dX5_needed_63 : decode cX5_needed 63 = .ok (.iload_n 1, 1) := by decide +kernel
theorem dX5_needed_64 : decode cX5_needed 64 = .ok (.iload_n 2, 1) := by decide +kernel
theorem dX5_needed_65 : decode cX5_needed 65 = .ok (.invokevirtual 188, 3) := by decide +kernel
theorem dX5_needed_68 : decode cX5_needed 68 = .ok (.invokestatic 192, 3) := by decide +kernel
theorem dX5_needed_71 : decode cX5_needed 71 = .ok (.istore 7, 2) := by decide +kernel
theorem dX5_needed_73 : decode cX5_needed 73 = .ok (.iload 7, 2) := by decide +kernel
theorem dX5_needed_75 : decode cX5_needed 75 = .ok (.iload 4, 2) := by decide +kernel
theorem dX5_needed_77 : decode cX5_needed 77 = .ok (.if_icmp .le 10, 3) := by decide +kernel
theorem dX5_needed_80 : decode cX5_needed 80 = .ok (.iload 7, 2) := by decide +kernel
theorem dX5_needed_82 : decode cX5_needed 82 = .ok (.istore 4, 2) := by decide +kernel
theorem dX5_needed_84 : decode cX5_needed 84 = .ok (.iload 5, 2) := by decide +kernel
theorem dX5_needed_86 : decode cX5_needed 86 = .ok (.istore_n 3, 1) := by decide +kernel
theorem dX5_needed_87 : decode cX5_needed 87 = .ok (.iinc 5 1, 3) := by decide +kernel
theorem dX5_needed_90 : decode cX5_needed 90 = .ok (.goto (-63), 3) := by decide +kernel
theorem dX5_needed_93 : decode cX5_needed 93 = .ok (.iload_n 3, 1) := by decide +kernel
theorem dX5_needed_94 : decode cX5_needed 94 = .ok (.ireturn, 1) := by decide +kernel
set_option maxRecDepth 20000 in
theorem ggX5_brick_X5_namesShip : GoodIn wsX5_brick wsX5_namesShip := goodIn_r _ [8, 9, 10, 11, 81, 82, 83, 84, 85, 86, 87, 88, 89, 101, 102, 103, 104] (by decide +kernel) (by decide +kernel)
set_option maxRecDepth 20000 in
theorem gX5_brick_X5_namesShip : GoodIn wsX5_brick (wsV RX5 124 RX5 yX5_namesShip wsX5_namesShip) := goodIn_app (goodIn_of _ (by decide +kernel)) ggX5_brick_X5_namesShip
set_option maxRecDepth 20000 in
theorem ggX5_brick_X5_namesCell : GoodIn wsX5_brick wsX5_namesCell := goodIn_r _ [15, 9, 10, 81, 82, 83, 84, 85, 86, 87, 88, 89, 101, 102, 103, 104] (by decide +kernel) (by decide +kernel)
set_option maxRecDepth 20000 in
theorem gX5_brick_X5_namesCell : GoodIn wsX5_brick (wsV RX5 137 RX5 yX5_namesCell wsX5_namesCell) := goodIn_app (goodIn_of _ (by decide +kernel)) ggX5_brick_X5_namesCell
set_option maxRecDepth 20000 in
theorem ggX5_brick_X4_daysTo : GoodIn wsX5_brick wsX4_daysTo := goodIn_r _ [20, 21, 22, 23, 24, 25, 26, 27, 28, 29, 30, 31, 32, 33, 34, 35, 36, 37, 38, 39, 40, 41, 42, 43, 44, 45, 46, 47, 48, 49, 50, 51, 52, 53, 54, 55, 56, 90, 91, 92, 93, 94, 95, 96, 97, 98, 99, 100, 105, 106, 101, 102, 103, 104] (by decide +kernel) (by decide +kernel)
set_option maxRecDepth 20000 in
theorem gX5_brick_X4_daysTo : GoodIn wsX5_brick (wsV RX5 172 RX4 yX4_daysTo wsX4_daysTo) := goodIn_app (goodIn_of _ (by decide +kernel)) ggX5_brick_X4_daysTo
set_option maxRecDepth 20000 in
theorem ggX5_brick_X5_endlessIfNone : GoodIn wsX5_brick wsX5_endlessIfNone := goodIn_r _ [59, 60] (by decide +kernel) (by decide +kernel)
set_option maxRecDepth 20000 in
theorem gX5_brick_X5_endlessIfNone : GoodIn wsX5_brick (va_wsS RX5 192 yX5_endlessIfNone wsX5_endlessIfNone) := goodIn_app (goodIn_of _ (by decide +kernel)) ggX5_brick_X5_endlessIfNone
set_option maxRecDepth 20000 in
theorem ggX5_brick_X5_daysIfIllUntil : GoodIn wsX5_brick wsX5_daysIfIllUntil := goodIn_r _ [64, 65, 2, 66, 1, 67, 68, 69, 26, 70, 30, 71, 72, 73, 74, 40, 75, 76, 77, 78, 35, 28, 29, 79, 80, 16, 17, 18, 19, 20, 21, 22, 23, 24, 25, 27, 31, 32, 33, 34, 36, 37, 38, 39, 41, 42, 43, 44, 45, 46, 47, 48, 49, 50, 51, 52, 53, 54, 55, 56, 81, 82, 83, 84, 85, 86, 87, 88, 89, 90, 91, 92, 93, 94, 95, 96, 97, 98, 99, 100, 105, 106, 101, 102, 103, 104] (by decide +kernel) (by decide +kernel)
set_option maxRecDepth 20000 in
theorem gX5_brick_X5_daysIfIllUntil : GoodIn wsX5_brick (wsV RX5 188 RX5 yX5_daysIfIllUntil wsX5_daysIfIllUntil) := goodIn_app (goodIn_of _ (by decide +kernel)) ggX5_brick_X5_daysIfIllUntil
theorem dX5_brick_0 : decode cX5_brick 0 = .ok (.aload_n 0, 1) := by decide +kernel
theorem dX5_brick_1 : decode cX5_brick 1 = .ok (.iload_n 1, 1) := by decide +kernel
theorem dX5_brick_2 : decode cX5_brick 2 = .ok (.invokevirtual 124, 3) := by decide +kernel
theorem dX5_brick_5 : decode cX5_brick 5 = .ok (.ifCond .eq 11, 3) := by decide +kernel
theorem dX5_brick_8 : decode cX5_brick 8 = .ok (.aload_n 0, 1) := by decide +kernel
theorem dX5_brick_9 : decode cX5_brick 9 = .ok (.iload_n 2, 1) := by decide +kernel
theorem dX5_brick_10 : decode cX5_brick 10 = .ok (.invokevirtual 137, 3) := by decide +kernel
theorem dX5_brick_13 : decode cX5_brick 13 = .ok (.ifCond .ne 6, 3) := by decide +kernel
theorem dX5_brick_16 : decode cX5_brick 16 = .ok (.bipush (-101), 2) := by decide +kernel
theorem dX5_brick_18 : decode cX5_brick 18 = .ok (.ireturn, 1) := by decide +kernel
theorem dX5_brick_19 : decode cX5_brick 19 = .ok (.iconst (-1), 1) := by decide +kernel
theorem dX5_brick_20 : decode cX5_brick 20 = .ok (.istore_n 3, 1) := by decide +kernel
theorem dX5_brick_21 : decode cX5_brick 21 = .ok (.aload_n 0, 1) := by decide +kernel
theorem dX5_brick_22 : decode cX5_brick 22 = .ok (.getfield 26, 3) := by decide +kernel
theorem dX5_brick_25 : decode cX5_brick 25 = .ok (.aload_n 0, 1) := by decide +kernel
theorem dX5_brick_26 : decode cX5_brick 26 = .ok (.getfield 38, 3) := by decide +kernel
theorem dX5_brick_29 : decode cX5_brick 29 = .ok (.iload_n 1, 1) := by decide +kernel
theorem dX5_brick_30 : decode cX5_brick 30 = .ok (.iload_n 2, 1) := by decide +kernel
theorem dX5_brick_31 : decode cX5_brick 31 = .ok (.invokevirtual 172, 3) := by decide +kernel
theorem dX5_brick_34 : decode cX5_brick 34 = .ok (.invokestatic 192, 3) := by decide +kernel
theorem dX5_brick_37 : decode cX5_brick 37 = .ok (.istore 4, 2) := by decide +kernel
theorem dX5_brick_39 : decode cX5_brick 39 = .ok (.iconst 0, 1) := by decide +kernel
theorem dX5_brick_40 : decode cX5_brick 40 = .ok (.istore 5, 2) := by decide +kernel
theorem dX5_brick_42 : decode cX5_brick 42 = .ok (.iload 5, 2) := by decide +kernel
theorem dX5_brick_44 : decode cX5_brick 44 = .ok (.iconst 4, 1) := by decide +kernel
theorem dX5_brick_45 : decode cX5_brick 45 = .ok (.if_icmp .ge 43, 3) := by decide +kernel
theorem dX5_brick_48 : decode cX5_brick 48 = .ok (.aload_n 0, 1) := by decide +kernel
theorem dX5_brick_49 : decode cX5_brick 49 = .ok (.iload 5, 2) := by decide +kernel
theorem dX5_brick_51 : decode cX5_brick 51 = .ok (.aload_n 0, 1) := by decide +kernel
theorem dX5_brick_52 : decode cX5_brick 52 = .ok (.getfield 38, 3) := by decide +kernel
theorem dX5_brick_55 : decode cX5_brick 55 = .ok (.getfield 97, 3) := by decide +kernel
theorem dX5_brick_58 : decode cX5_brick 58 = .ok (.iload_n 1, 1) := by decide +kernel
theorem dX5_brick_59 : decode cX5_brick 59 = .ok (.iload_n 2, 1) := by decide +kernel
theorem dX5_brick_60 : decode cX5_brick 60 = .ok (.invokevirtual 188, 3) := by decide +kernel
theorem dX5_brick_63 : decode cX5_brick 63 = .ok (.invokestatic 192, 3) := by decide +kernel
theorem dX5_brick_66 : decode cX5_brick 66 = .ok (.istore 6, 2) := by decide +kernel
theorem dX5_brick_68 : decode cX5_brick 68 = .ok (.iload 6, 2) := by decide +kernel
theorem dX5_brick_70 : decode cX5_brick 70 = .ok (.iload 4, 2) := by decide +kernel
theorem dX5_brick_72 : decode cX5_brick 72 = .ok (.if_icmp .ge 10, 3) := by decide +kernel
theorem dX5_brick_75 : decode cX5_brick 75 = .ok (.iload 6, 2) := by decide +kernel
theorem dX5_brick_77 : decode cX5_brick 77 = .ok (.istore 4, 2) := by decide +kernel
theorem dX5_brick_79 : decode cX5_brick 79 = .ok (.iload 5, 2) := by decide +kernel
theorem dX5_brick_81 : decode cX5_brick 81 = .ok (.istore_n 3, 1) := by decide +kernel
theorem dX5_brick_82 : decode cX5_brick 82 = .ok (.iinc 5 1, 3) := by decide +kernel
theorem dX5_brick_85 : decode cX5_brick 85 = .ok (.goto (-43), 3) := by decide +kernel
theorem dX5_brick_88 : decode cX5_brick 88 = .ok (.iload_n 3, 1) := by decide +kernel
theorem dX5_brick_89 : decode cX5_brick 89 = .ok (.ireturn, 1) := by decide +kernel
set_option maxRecDepth 20000 in
theorem ggX5_aside_X5_namesShip : GoodIn wsX5_aside wsX5_namesShip := goodIn_r _ [6, 7, 8, 9, 80, 81, 82, 83, 84, 85, 86, 87, 88, 89, 90, 91, 92] (by decide +kernel) (by decide +kernel)
set_option maxRecDepth 20000 in
theorem gX5_aside_X5_namesShip : GoodIn wsX5_aside (wsV RX5 124 RX5 yX5_namesShip wsX5_namesShip) := goodIn_app (goodIn_of _ (by decide +kernel)) ggX5_aside_X5_namesShip
set_option maxRecDepth 20000 in
theorem ggX5_aside_X5_placesIfHired : GoodIn wsX5_aside wsX5_placesIfHired := goodIn_r _ [13, 14, 15, 16, 17, 18, 19, 20, 21, 22, 23, 24, 25, 26, 27, 28, 29, 30, 31, 32, 33, 34, 35, 36, 37, 38, 39, 40, 41, 42, 43, 44, 45, 46, 47, 48, 49, 50, 51, 52, 53, 54, 55, 56, 57, 58, 59, 60, 61, 62, 63, 64, 65, 66, 67, 68, 69, 70, 71, 72, 80, 81, 82, 83, 84, 85, 86, 87, 88, 93, 94, 95, 96, 97, 98, 99, 100, 101, 102, 103, 104, 105, 89, 90, 91, 92] (by decide +kernel) (by decide +kernel)
set_option maxRecDepth 20000 in
theorem gX5_aside_X5_placesIfHired : GoodIn wsX5_aside (wsV RX5 195 RX5 yX5_placesIfHired wsX5_placesIfHired) := goodIn_app (goodIn_of _ (by decide +kernel)) ggX5_aside_X5_placesIfHired
set_option maxRecDepth 20000 in
theorem ggX5_aside_J13_bitCount_95d88 : GoodIn wsX5_aside wsJ13_bitCount_95d88 := goodIn_r _ [76, 77, 78, 79] (by decide +kernel) (by decide +kernel)
set_option maxRecDepth 20000 in
theorem gX5_aside_J13_bitCount_95d88 : GoodIn wsX5_aside (va_wsS RX5 201 yJ13_bitCount_95d88 wsJ13_bitCount_95d88) := goodIn_app (goodIn_of _ (by decide +kernel)) ggX5_aside_J13_bitCount_95d88
theorem dX5_aside_0 : decode cX5_aside 0 = .ok (.aload_n 0, 1) := by decide +kernel
theorem dX5_aside_1 : decode cX5_aside 1 = .ok (.iload_n 1, 1) := by decide +kernel
theorem dX5_aside_2 : decode cX5_aside 2 = .ok (.invokevirtual 124, 3) := by decide +kernel
theorem dX5_aside_5 : decode cX5_aside 5 = .ok (.ifCond .ne 6, 3) := by decide +kernel
theorem dX5_aside_8 : decode cX5_aside 8 = .ok (.bipush (-101), 2) := by decide +kernel
theorem dX5_aside_10 : decode cX5_aside 10 = .ok (.ireturn, 1) := by decide +kernel
theorem dX5_aside_11 : decode cX5_aside 11 = .ok (.iload_n 2, 1) := by decide +kernel
theorem dX5_aside_12 : decode cX5_aside 12 = .ok (.ifCond .lt 9, 3) := by decide +kernel
theorem dX5_aside_15 : decode cX5_aside 15 = .ok (.iload_n 2, 1) := by decide +kernel
theorem dX5_aside_16 : decode cX5_aside 16 = .ok (.bipush 20, 2) := by decide +kernel
theorem dX5_aside_18 : decode cX5_aside 18 = .ok (.if_icmp .le 6, 3) := by decide +kernel
theorem dX5_aside_21 : decode cX5_aside 21 = .ok (.bipush (-102), 2) := by decide +kernel
theorem dX5_aside_23 : decode cX5_aside 23 = .ok (.ireturn, 1) := by decide +kernel
theorem dX5_aside_24 : decode cX5_aside 24 = .ok (.aload_n 0, 1) := by decide +kernel
theorem dX5_aside_25 : decode cX5_aside 25 = .ok (.iconst 1, 1) := by decide +kernel
theorem dX5_aside_26 : decode cX5_aside 26 = .ok (.iload_n 1, 1) := by decide +kernel
theorem dX5_aside_27 : decode cX5_aside 27 = .ok (.iload_n 2, 1) := by decide +kernel
theorem dX5_aside_28 : decode cX5_aside 28 = .ok (.invokevirtual 195, 3) := by decide +kernel
theorem dX5_aside_31 : decode cX5_aside 31 = .ok (.aload_n 0, 1) := by decide +kernel
theorem dX5_aside_32 : decode cX5_aside 32 = .ok (.iconst 0, 1) := by decide +kernel
theorem dX5_aside_33 : decode cX5_aside 33 = .ok (.iload_n 1, 1) := by decide +kernel
theorem dX5_aside_34 : decode cX5_aside 34 = .ok (.iload_n 2, 1) := by decide +kernel
theorem dX5_aside_35 : decode cX5_aside 35 = .ok (.invokevirtual 195, 3) := by decide +kernel
theorem dX5_aside_38 : decode cX5_aside 38 = .ok (.ldc2_w 199, 3) := by decide +kernel
theorem dX5_aside_41 : decode cX5_aside 41 = .ok (.lxor, 1) := by decide +kernel
theorem dX5_aside_42 : decode cX5_aside 42 = .ok (.land, 1) := by decide +kernel
theorem dX5_aside_43 : decode cX5_aside 43 = .ok (.invokestatic 201, 3) := by decide +kernel
theorem dX5_aside_46 : decode cX5_aside 46 = .ok (.ireturn, 1) := by decide +kernel
set_option maxRecDepth 20000 in
theorem ggX5_see_X5_namesLodger : GoodIn wsX5_see wsX5_namesLodger := goodIn_r _ [7, 8, 9, 21, 22, 23, 24, 25, 26, 27, 28, 29, 41, 42, 43, 44] (by decide +kernel) (by decide +kernel)
set_option maxRecDepth 20000 in
theorem gX5_see_X5_namesLodger : GoodIn wsX5_see (wsV RX5 86 RX5 yX5_namesLodger wsX5_namesLodger) := goodIn_app (goodIn_of _ (by decide +kernel)) ggX5_see_X5_namesLodger
set_option maxRecDepth 20000 in
theorem ggX5_see_X2_keepSeen : GoodIn wsX5_see wsX2_keepSeen := goodIn_r _ [14, 15, 16, 17, 18, 19, 6, 20, 30, 31, 32, 33, 34, 35, 36, 37, 38, 39, 40] (by decide +kernel) (by decide +kernel)
set_option maxRecDepth 20000 in
theorem gX5_see_X2_keepSeen : GoodIn wsX5_see (wsV RX5 207 RX2 yX2_keepSeen wsX2_keepSeen) := goodIn_app (goodIn_of _ (by decide +kernel)) ggX5_see_X2_keepSeen
theorem dX5_see_0 : decode cX5_see 0 = .ok (.aload_n 0, 1) := by decide +kernel
theorem dX5_see_1 : decode cX5_see 1 = .ok (.iload_n 1, 1) := by decide +kernel
theorem dX5_see_2 : decode cX5_see 2 = .ok (.invokevirtual 86, 3) := by decide +kernel
theorem dX5_see_5 : decode cX5_see 5 = .ok (.ifCond .ne 6, 3) := by decide +kernel
theorem dX5_see_8 : decode cX5_see 8 = .ok (.bipush (-101), 2) := by decide +kernel
theorem dX5_see_10 : decode cX5_see 10 = .ok (.ireturn, 1) := by decide +kernel
theorem dX5_see_11 : decode cX5_see 11 = .ok (.iload_n 2, 1) := by decide +kernel
theorem dX5_see_12 : decode cX5_see 12 = .ok (.ifCond .lt 9, 3) := by decide +kernel
theorem dX5_see_15 : decode cX5_see 15 = .ok (.iload_n 2, 1) := by decide +kernel
theorem dX5_see_16 : decode cX5_see 16 = .ok (.bipush 20, 2) := by decide +kernel
theorem dX5_see_18 : decode cX5_see 18 = .ok (.if_icmp .le 6, 3) := by decide +kernel
theorem dX5_see_21 : decode cX5_see 21 = .ok (.bipush (-102), 2) := by decide +kernel
theorem dX5_see_23 : decode cX5_see 23 = .ok (.ireturn, 1) := by decide +kernel
theorem dX5_see_24 : decode cX5_see 24 = .ok (.aload_n 0, 1) := by decide +kernel
theorem dX5_see_25 : decode cX5_see 25 = .ok (.getfield 38, 3) := by decide +kernel
theorem dX5_see_28 : decode cX5_see 28 = .ok (.iload_n 1, 1) := by decide +kernel
theorem dX5_see_29 : decode cX5_see 29 = .ok (.iload_n 2, 1) := by decide +kernel
theorem dX5_see_30 : decode cX5_see 30 = .ok (.iload_n 3, 1) := by decide +kernel
theorem dX5_see_31 : decode cX5_see 31 = .ok (.invokevirtual 207, 3) := by decide +kernel
theorem dX5_see_34 : decode cX5_see 34 = .ok (.ifCond .eq 13, 3) := by decide +kernel
theorem dX5_see_37 : decode cX5_see 37 = .ok (.aload_n 0, 1) := by decide +kernel
theorem dX5_see_38 : decode cX5_see 38 = .ok (.getfield 38, 3) := by decide +kernel
theorem dX5_see_41 : decode cX5_see 41 = .ok (.getfield 211, 3) := by decide +kernel
theorem dX5_see_44 : decode cX5_see 44 = .ok (.goto 5, 3) := by decide +kernel
theorem dX5_see_47 : decode cX5_see 47 = .ok (.bipush (-104), 2) := by decide +kernel
theorem dX5_see_49 : decode cX5_see 49 = .ok (.ireturn, 1) := by decide +kernel
theorem dX5_forget_0 : decode cX5_forget 0 = .ok (.aload_n 0, 1) := by decide +kernel
theorem dX5_forget_1 : decode cX5_forget 1 = .ok (.getfield 38, 3) := by decide +kernel
theorem dX5_forget_4 : decode cX5_forget 4 = .ok (.getfield 211, 3) := by decide +kernel
theorem dX5_forget_7 : decode cX5_forget 7 = .ok (.istore_n 1, 1) := by decide +kernel
theorem dX5_forget_8 : decode cX5_forget 8 = .ok (.aload_n 0, 1) := by decide +kernel
theorem dX5_forget_9 : decode cX5_forget 9 = .ok (.getfield 38, 3) := by decide +kernel
theorem dX5_forget_12 : decode cX5_forget 12 = .ok (.iconst 0, 1) := by decide +kernel
theorem dX5_forget_13 : decode cX5_forget 13 = .ok (.putfield 211, 3) := by decide +kernel
theorem dX5_forget_16 : decode cX5_forget 16 = .ok (.iload_n 1, 1) := by decide +kernel
theorem dX5_forget_17 : decode cX5_forget 17 = .ok (.ireturn, 1) := by decide +kernel
set_option maxRecDepth 20000 in
theorem ggX5_drifts_X2_copyFrom : GoodIn wsX5_drifts wsX2_copyFrom := goodIn_r _ [13, 14, 15, 16, 17, 18, 19, 20, 21, 22, 23, 24, 25, 26, 27, 28, 97, 98, 99, 100, 101, 102, 103, 104, 105, 106, 107] (by decide +kernel) (by decide +kernel)
set_option maxRecDepth 20000 in
theorem gX5_drifts_X2_copyFrom : GoodIn wsX5_drifts (wsV RX5 214 RX2 yX2_copyFrom wsX2_copyFrom) := goodIn_app (goodIn_of _ (by decide +kernel)) ggX5_drifts_X2_copyFrom
set_option maxRecDepth 20000 in
theorem ggX5_drifts_X4_driftForADay : GoodIn wsX5_drifts wsX4_driftForADay := goodIn_r _ [33, 34, 35, 36, 37, 38, 39, 32, 40, 41, 42, 43, 44, 45, 46, 47, 48, 49, 50, 12, 51, 25, 26, 14, 52, 53, 54, 55, 24, 56, 57, 58, 59, 19, 60, 61, 62, 63, 64, 65, 66, 67, 68, 69, 70, 71, 72, 73, 74, 75, 76, 77, 78, 79, 20, 27, 108, 109, 93, 94, 95, 96, 97, 98, 99, 100, 101, 102, 103, 104, 105, 106, 107] (by decide +kernel) (by decide +kernel)
set_option maxRecDepth 20000 in
theorem gX5_drifts_X4_driftForADay : GoodIn wsX5_drifts (wsV RX5 221 RX4 yX4_driftForADay wsX4_driftForADay) := goodIn_app (goodIn_of _ (by decide +kernel)) ggX5_drifts_X4_driftForADay
set_option maxRecDepth 20000 in
theorem ggX5_drifts_X2_beginNextDay : GoodIn wsX5_drifts wsX2_beginNextDay := goodIn_r _ [83, 25, 24, 97, 98, 99, 100, 101, 102, 103, 104, 105, 106, 107] (by decide +kernel) (by decide +kernel)
set_option maxRecDepth 20000 in
theorem gX5_drifts_X2_beginNextDay : GoodIn wsX5_drifts (wsV RX5 159 RX2 yX2_beginNextDay wsX2_beginNextDay) := goodIn_app (goodIn_of _ (by decide +kernel)) ggX5_drifts_X2_beginNextDay
theorem dX5_drifts_0 : decode cX5_drifts 0 = .ok (.iload_n 1, 1) := by decide +kernel
theorem dX5_drifts_1 : decode cX5_drifts 1 = .ok (.iconst 1, 1) := by decide +kernel
theorem dX5_drifts_2 : decode cX5_drifts 2 = .ok (.if_icmp .lt 22, 3) := by decide +kernel
theorem dX5_drifts_5 : decode cX5_drifts 5 = .ok (.iload_n 1, 1) := by decide +kernel
theorem dX5_drifts_6 : decode cX5_drifts 6 = .ok (.bipush 60, 2) := by decide +kernel
theorem dX5_drifts_8 : decode cX5_drifts 8 = .ok (.if_icmp .gt 16, 3) := by decide +kernel
theorem dX5_drifts_11 : decode cX5_drifts 11 = .ok (.iload_n 2, 1) := by decide +kernel
theorem dX5_drifts_12 : decode cX5_drifts 12 = .ok (.ifCond .lt 12, 3) := by decide +kernel
theorem dX5_drifts_15 : decode cX5_drifts 15 = .ok (.iload_n 3, 1) := by decide +kernel
theorem dX5_drifts_16 : decode cX5_drifts 16 = .ok (.ifCond .lt 8, 3) := by decide +kernel
theorem dX5_drifts_19 : decode cX5_drifts 19 = .ok (.iload_n 3, 1) := by decide +kernel
theorem dX5_drifts_20 : decode cX5_drifts 20 = .ok (.iconst 2, 1) := by decide +kernel
theorem dX5_drifts_21 : decode cX5_drifts 21 = .ok (.if_icmp .le 6, 3) := by decide +kernel
theorem dX5_drifts_24 : decode cX5_drifts 24 = .ok (.bipush (-102), 2) := by decide +kernel
theorem dX5_drifts_26 : decode cX5_drifts 26 = .ok (.ireturn, 1) := by decide +kernel
theorem dX5_drifts_27 : decode cX5_drifts 27 = .ok (.aload_n 0, 1) := by decide +kernel
theorem dX5_drifts_28 : decode cX5_drifts 28 = .ok (.getfield 34, 3) := by decide +kernel
theorem dX5_drifts_31 : decode cX5_drifts 31 = .ok (.getfield 156, 3) := by decide +kernel
theorem dX5_drifts_34 : decode cX5_drifts 34 = .ok (.ifCond .ne 6, 3) := by decide +kernel
theorem dX5_drifts_37 : decode cX5_drifts 37 = .ok (.bipush (-103), 2) := by decide +kernel
theorem dX5_drifts_39 : decode cX5_drifts 39 = .ok (.ireturn, 1) := by decide +kernel
theorem dX5_drifts_40 : decode cX5_drifts 40 = .ok (.aload_n 0, 1) := by decide +kernel
theorem dX5_drifts_41 : decode cX5_drifts 41 = .ok (.getfield 45, 3) := by decide +kernel
theorem dX5_drifts_44 : decode cX5_drifts 44 = .ok (.aload_n 0, 1) := by decide +kernel
theorem dX5_drifts_45 : decode cX5_drifts 45 = .ok (.getfield 38, 3) := by decide +kernel
theorem dX5_drifts_48 : decode cX5_drifts 48 = .ok (.invokevirtual 214, 3) := by decide +kernel
theorem dX5_drifts_51 : decode cX5_drifts 51 = .ok (.aload_n 0, 1) := by decide +kernel
theorem dX5_drifts_52 : decode cX5_drifts 52 = .ok (.getfield 45, 3) := by decide +kernel
theorem dX5_drifts_55 : decode cX5_drifts 55 = .ok (.iconst 0, 1) := by decide +kernel
theorem dX5_drifts_56 : decode cX5_drifts 56 = .ok (.putfield 218, 3) := by decide +kernel
theorem dX5_drifts_59 : decode cX5_drifts 59 = .ok (.aload_n 0, 1) := by decide +kernel
theorem dX5_drifts_60 : decode cX5_drifts 60 = .ok (.getfield 45, 3) := by decide +kernel
theorem dX5_drifts_63 : decode cX5_drifts 63 = .ok (.iconst 0, 1) := by decide +kernel
theorem dX5_drifts_64 : decode cX5_drifts 64 = .ok (.putfield 146, 3) := by decide +kernel
theorem dX5_drifts_67 : decode cX5_drifts 67 = .ok (.iload_n 2, 1) := by decide +kernel
theorem dX5_drifts_68 : decode cX5_drifts 68 = .ok (.istore 4, 2) := by decide +kernel
theorem dX5_drifts_70 : decode cX5_drifts 70 = .ok (.iconst 0, 1) := by decide +kernel
theorem dX5_drifts_71 : decode cX5_drifts 71 = .ok (.istore 5, 2) := by decide +kernel
theorem dX5_drifts_73 : decode cX5_drifts 73 = .ok (.iload 5, 2) := by decide +kernel
theorem dX5_drifts_75 : decode cX5_drifts 75 = .ok (.iload_n 1, 1) := by decide +kernel
theorem dX5_drifts_76 : decode cX5_drifts 76 = .ok (.if_icmp .ge 31, 3) := by decide +kernel
theorem dX5_drifts_79 : decode cX5_drifts 79 = .ok (.aload_n 0, 1) := by decide +kernel
theorem dX5_drifts_80 : decode cX5_drifts 80 = .ok (.getfield 26, 3) := by decide +kernel
theorem dX5_drifts_83 : decode cX5_drifts 83 = .ok (.aload_n 0, 1) := by decide +kernel
theorem dX5_drifts_84 : decode cX5_drifts 84 = .ok (.getfield 45, 3) := by decide +kernel
theorem dX5_drifts_87 : decode cX5_drifts 87 = .ok (.iload 4, 2) := by decide +kernel
theorem dX5_drifts_89 : decode cX5_drifts 89 = .ok (.invokevirtual 221, 3) := by decide +kernel
theorem dX5_drifts_92 : decode cX5_drifts 92 = .ok (.istore 4, 2) := by decide +kernel
theorem dX5_drifts_94 : decode cX5_drifts 94 = .ok (.aload_n 0, 1) := by decide +kernel
theorem dX5_drifts_95 : decode cX5_drifts 95 = .ok (.getfield 45, 3) := by decide +kernel
theorem dX5_drifts_98 : decode cX5_drifts 98 = .ok (.invokevirtual 159, 3) := by decide +kernel
theorem dX5_drifts_101 : decode cX5_drifts 101 = .ok (.iinc 5 1, 3) := by decide +kernel
theorem dX5_drifts_104 : decode cX5_drifts 104 = .ok (.goto (-31), 3) := by decide +kernel
theorem dX5_drifts_107 : decode cX5_drifts 107 = .ok (.iload_n 3, 1) := by decide +kernel
theorem dX5_drifts_108 : decode cX5_drifts 108 = .ok (.lookupswitch 46 #[(0, 28), (1, 36)], 28) := by decide +kernel
theorem dX5_drifts_136 : decode cX5_drifts 136 = .ok (.aload_n 0, 1) := by decide +kernel
theorem dX5_drifts_137 : decode cX5_drifts 137 = .ok (.getfield 45, 3) := by decide +kernel
theorem dX5_drifts_140 : decode cX5_drifts 140 = .ok (.getfield 146, 3) := by decide +kernel
theorem dX5_drifts_143 : decode cX5_drifts 143 = .ok (.ireturn, 1) := by decide +kernel
theorem dX5_drifts_144 : decode cX5_drifts 144 = .ok (.aload_n 0, 1) := by decide +kernel
theorem dX5_drifts_145 : decode cX5_drifts 145 = .ok (.getfield 45, 3) := by decide +kernel
theorem dX5_drifts_148 : decode cX5_drifts 148 = .ok (.getfield 127, 3) := by decide +kernel
theorem dX5_drifts_151 : decode cX5_drifts 151 = .ok (.iconst 0, 1) := by decide +kernel
theorem dX5_drifts_152 : decode cX5_drifts 152 = .ok (.iaload, 1) := by decide +kernel
theorem dX5_drifts_153 : decode cX5_drifts 153 = .ok (.ireturn, 1) := by decide +kernel
theorem dX5_drifts_154 : decode cX5_drifts 154 = .ok (.iload 4, 2) := by decide +kernel
theorem dX5_drifts_156 : decode cX5_drifts 156 = .ok (.ireturn, 1) := by decide +kernel
set_option maxRecDepth 20000 in
theorem ggX5_image_X2_copyFrom : GoodIn wsX5_image wsX2_copyFrom := goodIn_r _ [11, 12, 13, 14, 15, 16, 17, 18, 19, 20, 21, 22, 23, 24, 25, 26, 40, 41, 42, 43, 44, 45, 46, 47, 48, 49, 50] (by decide +kernel) (by decide +kernel)
set_option maxRecDepth 20000 in
theorem gX5_image_X2_copyFrom : GoodIn wsX5_image (wsV RX5 214 RX2 yX2_copyFrom wsX2_copyFrom) := goodIn_app (goodIn_of _ (by decide +kernel)) ggX5_image_X2_copyFrom
theorem dX5_image_0 : decode cX5_image 0 = .ok (.aload_n 0, 1) := by decide +kernel
theorem dX5_image_1 : decode cX5_image 1 = .ok (.getfield 34, 3) := by decide +kernel
theorem dX5_image_4 : decode cX5_image 4 = .ok (.getfield 156, 3) := by decide +kernel
theorem dX5_image_7 : decode cX5_image 7 = .ok (.ifCond .ne 6, 3) := by decide +kernel
theorem dX5_image_10 : decode cX5_image 10 = .ok (.bipush (-103), 2) := by decide +kernel
theorem dX5_image_12 : decode cX5_image 12 = .ok (.ireturn, 1) := by decide +kernel
theorem dX5_image_13 : decode cX5_image 13 = .ok (.aload_n 0, 1) := by decide +kernel
theorem dX5_image_14 : decode cX5_image 14 = .ok (.getfield 42, 3) := by decide +kernel
theorem dX5_image_17 : decode cX5_image 17 = .ok (.aload_n 0, 1) := by decide +kernel
theorem dX5_image_18 : decode cX5_image 18 = .ok (.getfield 38, 3) := by decide +kernel
theorem dX5_image_21 : decode cX5_image 21 = .ok (.invokevirtual 214, 3) := by decide +kernel
theorem dX5_image_24 : decode cX5_image 24 = .ok (.aload_n 0, 1) := by decide +kernel
theorem dX5_image_25 : decode cX5_image 25 = .ok (.iconst 1, 1) := by decide +kernel
theorem dX5_image_26 : decode cX5_image 26 = .ok (.putfield 48, 3) := by decide +kernel
theorem dX5_image_29 : decode cX5_image 29 = .ok (.aload_n 0, 1) := by decide +kernel
theorem dX5_image_30 : decode cX5_image 30 = .ok (.getfield 38, 3) := by decide +kernel
theorem dX5_image_33 : decode cX5_image 33 = .ok (.getfield 97, 3) := by decide +kernel
theorem dX5_image_36 : decode cX5_image 36 = .ok (.ireturn, 1) := by decide +kernel
set_option maxRecDepth 20000 in
theorem ggX5_restore_X2_copyFrom : GoodIn wsX5_restore wsX2_copyFrom := goodIn_r _ [9, 10, 11, 12, 13, 14, 15, 16, 17, 18, 19, 20, 21, 22, 23, 24, 34, 35, 36, 37, 38, 39, 40, 41, 42, 43, 44] (by decide +kernel) (by decide +kernel)
set_option maxRecDepth 20000 in
theorem gX5_restore_X2_copyFrom : GoodIn wsX5_restore (wsV RX5 214 RX2 yX2_copyFrom wsX2_copyFrom) := goodIn_app (goodIn_of _ (by decide +kernel)) ggX5_restore_X2_copyFrom
theorem dX5_restore_0 : decode cX5_restore 0 = .ok (.aload_n 0, 1) := by decide +kernel
theorem dX5_restore_1 : decode cX5_restore 1 = .ok (.getfield 48, 3) := by decide +kernel
theorem dX5_restore_4 : decode cX5_restore 4 = .ok (.ifCond .ne 6, 3) := by decide +kernel
theorem dX5_restore_7 : decode cX5_restore 7 = .ok (.bipush (-103), 2) := by decide +kernel
theorem dX5_restore_9 : decode cX5_restore 9 = .ok (.ireturn, 1) := by decide +kernel
theorem dX5_restore_10 : decode cX5_restore 10 = .ok (.aload_n 0, 1) := by decide +kernel
theorem dX5_restore_11 : decode cX5_restore 11 = .ok (.getfield 38, 3) := by decide +kernel
theorem dX5_restore_14 : decode cX5_restore 14 = .ok (.aload_n 0, 1) := by decide +kernel
theorem dX5_restore_15 : decode cX5_restore 15 = .ok (.getfield 42, 3) := by decide +kernel
theorem dX5_restore_18 : decode cX5_restore 18 = .ok (.invokevirtual 214, 3) := by decide +kernel
theorem dX5_restore_21 : decode cX5_restore 21 = .ok (.aload_n 0, 1) := by decide +kernel
theorem dX5_restore_22 : decode cX5_restore 22 = .ok (.getfield 38, 3) := by decide +kernel
theorem dX5_restore_25 : decode cX5_restore 25 = .ok (.getfield 97, 3) := by decide +kernel
theorem dX5_restore_28 : decode cX5_restore 28 = .ok (.ireturn, 1) := by decide +kernel
set_option maxRecDepth 20000 in
theorem ggX5_count_X5_asBit : GoodIn wsX5_count wsX5_asBit := goodIn_r _ [16] (by decide +kernel) (by decide +kernel)
set_option maxRecDepth 20000 in
theorem gX5_count_X5_asBit : GoodIn wsX5_count (va_wsS RX5 104 yX5_asBit wsX5_asBit) := goodIn_app (goodIn_of _ (by decide +kernel)) ggX5_count_X5_asBit
set_option maxRecDepth 20000 in
theorem ggX5_count_X5_lodgersUp : GoodIn wsX5_count wsX5_lodgersUp := goodIn_r _ [20, 1, 21, 4, 5, 22, 23, 24, 25, 26, 27, 28, 29, 30, 31, 32, 33, 34, 35, 13, 14, 15, 16, 48, 49, 50, 51, 52, 53, 54, 55, 56, 57, 58, 59, 60, 61, 62, 63, 64, 65, 66, 67, 68, 69, 70, 71] (by decide +kernel) (by decide +kernel)
set_option maxRecDepth 20000 in
theorem gX5_count_X5_lodgersUp : GoodIn wsX5_count (wsV RX5 227 RX5 yX5_lodgersUp wsX5_lodgersUp) := goodIn_app (goodIn_of _ (by decide +kernel)) ggX5_count_X5_lodgersUp
set_option maxRecDepth 20000 in
theorem ggX5_count_X5_lodgersIll : GoodIn wsX5_count wsX5_lodgersIll := goodIn_r _ [39, 4, 5, 40, 29, 30, 25, 31, 32, 13, 14, 15, 16, 48, 49, 50, 51, 52, 53, 54, 55, 56, 61, 62, 63, 64, 65, 66, 67, 68, 69, 70, 71] (by decide +kernel) (by decide +kernel)
set_option maxRecDepth 20000 in
theorem gX5_count_X5_lodgersIll : GoodIn wsX5_count (wsV RX5 230 RX5 yX5_lodgersIll wsX5_lodgersIll) := goodIn_app (goodIn_of _ (by decide +kernel)) ggX5_count_X5_lodgersIll
set_option maxRecDepth 20000 in
theorem ggX5_count_J6_bitCount_0f7a4 : GoodIn wsX5_count wsJ6_bitCount_0f7a4 := goodIn_r _ [44, 45, 46, 47] (by decide +kernel) (by decide +kernel)
set_option maxRecDepth 20000 in
theorem gX5_count_J6_bitCount_0f7a4 : GoodIn wsX5_count (va_wsS RX5 233 yJ6_bitCount_0f7a4 wsJ6_bitCount_0f7a4) := goodIn_app (goodIn_of _ (by decide +kernel)) ggX5_count_J6_bitCount_0f7a4
theorem dX5_count_0 : decode cX5_count 0 = .ok (.iload_n 1, 1) := by decide +kernel
theorem dX5_count_1 : decode cX5_count 1 = .ok (.tableswitch 144 0 10 #[59, 67, 75, 83, 94, 99, 104, 115, 123, 131, 139], 59) := by decide +kernel
theorem dX5_count_60 : decode cX5_count 60 = .ok (.aload_n 0, 1) := by decide +kernel
theorem dX5_count_61 : decode cX5_count 61 = .ok (.getfield 34, 3) := by decide +kernel
theorem dX5_count_64 : decode cX5_count 64 = .ok (.getfield 83, 3) := by decide +kernel
theorem dX5_count_67 : decode cX5_count 67 = .ok (.ireturn, 1) := by decide +kernel
theorem dX5_count_68 : decode cX5_count 68 = .ok (.aload_n 0, 1) := by decide +kernel
theorem dX5_count_69 : decode cX5_count 69 = .ok (.getfield 34, 3) := by decide +kernel
theorem dX5_count_72 : decode cX5_count 72 = .ok (.getfield 224, 3) := by decide +kernel
theorem dX5_count_75 : decode cX5_count 75 = .ok (.ireturn, 1) := by decide +kernel
theorem dX5_count_76 : decode cX5_count 76 = .ok (.aload_n 0, 1) := by decide +kernel
theorem dX5_count_77 : decode cX5_count 77 = .ok (.getfield 38, 3) := by decide +kernel
theorem dX5_count_80 : decode cX5_count 80 = .ok (.getfield 97, 3) := by decide +kernel
theorem dX5_count_83 : decode cX5_count 83 = .ok (.ireturn, 1) := by decide +kernel
theorem dX5_count_84 : decode cX5_count 84 = .ok (.aload_n 0, 1) := by decide +kernel
theorem dX5_count_85 : decode cX5_count 85 = .ok (.getfield 38, 3) := by decide +kernel
theorem dX5_count_88 : decode cX5_count 88 = .ok (.getfield 165, 3) := by decide +kernel
theorem dX5_count_91 : decode cX5_count 91 = .ok (.invokestatic 104, 3) := by decide +kernel
theorem dX5_count_94 : decode cX5_count 94 = .ok (.ireturn, 1) := by decide +kernel
theorem dX5_count_95 : decode cX5_count 95 = .ok (.aload_n 0, 1) := by decide +kernel
theorem dX5_count_96 : decode cX5_count 96 = .ok (.invokevirtual 227, 3) := by decide +kernel
theorem dX5_count_99 : decode cX5_count 99 = .ok (.ireturn, 1) := by decide +kernel
theorem dX5_count_100 : decode cX5_count 100 = .ok (.aload_n 0, 1) := by decide +kernel
theorem dX5_count_101 : decode cX5_count 101 = .ok (.invokevirtual 230, 3) := by decide +kernel
theorem dX5_count_104 : decode cX5_count 104 = .ok (.ireturn, 1) := by decide +kernel
theorem dX5_count_105 : decode cX5_count 105 = .ok (.aload_n 0, 1) := by decide +kernel
theorem dX5_count_106 : decode cX5_count 106 = .ok (.getfield 38, 3) := by decide +kernel
theorem dX5_count_109 : decode cX5_count 109 = .ok (.getfield 218, 3) := by decide +kernel
theorem dX5_count_112 : decode cX5_count 112 = .ok (.invokestatic 233, 3) := by decide +kernel
theorem dX5_count_115 : decode cX5_count 115 = .ok (.ireturn, 1) := by decide +kernel
theorem dX5_count_116 : decode cX5_count 116 = .ok (.aload_n 0, 1) := by decide +kernel
theorem dX5_count_117 : decode cX5_count 117 = .ok (.getfield 38, 3) := by decide +kernel
theorem dX5_count_120 : decode cX5_count 120 = .ok (.getfield 146, 3) := by decide +kernel
theorem dX5_count_123 : decode cX5_count 123 = .ok (.ireturn, 1) := by decide +kernel
theorem dX5_count_124 : decode cX5_count 124 = .ok (.aload_n 0, 1) := by decide +kernel
theorem dX5_count_125 : decode cX5_count 125 = .ok (.getfield 38, 3) := by decide +kernel
theorem dX5_count_128 : decode cX5_count 128 = .ok (.getfield 211, 3) := by decide +kernel
theorem dX5_count_131 : decode cX5_count 131 = .ok (.ireturn, 1) := by decide +kernel
theorem dX5_count_132 : decode cX5_count 132 = .ok (.aload_n 0, 1) := by decide +kernel
theorem dX5_count_133 : decode cX5_count 133 = .ok (.getfield 10, 3) := by decide +kernel
theorem dX5_count_136 : decode cX5_count 136 = .ok (.getfield 60, 3) := by decide +kernel
theorem dX5_count_139 : decode cX5_count 139 = .ok (.ireturn, 1) := by decide +kernel
theorem dX5_count_140 : decode cX5_count 140 = .ok (.aload_n 0, 1) := by decide +kernel
theorem dX5_count_141 : decode cX5_count 141 = .ok (.getfield 52, 3) := by decide +kernel
theorem dX5_count_144 : decode cX5_count 144 = .ok (.ireturn, 1) := by decide +kernel
theorem dX5_count_145 : decode cX5_count 145 = .ok (.bipush (-102), 2) := by decide +kernel
theorem dX5_count_147 : decode cX5_count 147 = .ok (.ireturn, 1) := by decide +kernel
set_option maxRecDepth 20000 in
theorem ggX5_digest_X5_digestOfLodgers : GoodIn wsX5_digest wsX5_digestOfLodgers := goodIn_r _ [12, 4, 13, 14, 15, 11, 16, 17, 18, 19, 20, 21, 22, 23, 2, 3, 24, 25, 26, 27, 28, 29, 30, 31, 32, 33, 34, 35, 36, 37, 38, 39, 40, 41, 42, 43, 44, 45, 46, 47, 48, 49, 50, 51, 52, 53, 54, 55, 56, 57, 58, 59, 60, 61, 62, 63, 64, 65, 66, 67, 68, 69, 70, 71, 72, 73, 74, 75, 76, 77, 78, 245, 246, 247, 248, 249, 250, 251, 252, 253, 260, 261, 262, 263, 264, 265, 266, 267, 268, 269, 270, 254, 255, 256, 257] (by decide +kernel) (by decide +kernel)
set_option maxRecDepth 20000 in
theorem gX5_digest_X5_digestOfLodgers : GoodIn wsX5_digest (wsV RX5 239 RX5 yX5_digestOfLodgers wsX5_digestOfLodgers) := goodIn_app (goodIn_of _ (by decide +kernel)) ggX5_digest_X5_digestOfLodgers
set_option maxRecDepth 20000 in
theorem ggX5_digest_X5_digestOfShips : GoodIn wsX5_digest wsX5_digestOfShips := goodIn_r _ [82, 2, 83, 4, 84, 85, 86, 11, 87, 17, 88, 89, 90, 91, 92, 93, 3, 94, 95, 96, 27, 97, 98, 47, 48, 49, 99, 100, 101, 102, 103, 104, 105, 106, 107, 108, 109, 30, 110, 39, 111, 40, 41, 42, 43, 29, 44, 45, 46, 112, 113, 114, 115, 116, 117, 118, 119, 120, 121, 122, 123, 124, 125, 126, 127, 128, 129, 130, 131, 132, 133, 134, 135, 136, 137, 138, 139, 140, 141, 142, 143, 144, 145, 146, 147, 148, 149, 150, 151, 152, 153, 154, 155, 156, 157, 158, 159, 160, 161, 162, 163, 164, 165, 166, 167, 168, 19, 169, 32, 33, 34, 170, 171, 172, 173, 174, 175, 176, 177, 178, 179, 180, 181, 182, 183, 55, 56, 57, 184, 54, 185, 186, 187, 188, 189, 190, 191, 192, 193, 194, 195, 196, 197, 198, 199, 200, 201, 202, 203, 204, 205, 206, 207, 208, 209, 210, 211, 212, 213, 245, 246, 247, 248, 249, 250, 251, 252, 253, 254, 255, 256, 257, 260, 261, 262, 263, 264, 265, 266, 267, 268, 269, 270, 271, 272] (by decide +kernel) (by decide +kernel)
set_option maxRecDepth 20000 in
theorem gX5_digest_X5_digestOfShips : GoodIn wsX5_digest (wsV RX5 243 RX5 yX5_digestOfShips wsX5_digestOfShips) := goodIn_app (goodIn_of _ (by decide +kernel)) ggX5_digest_X5_digestOfShips
set_option maxRecDepth 20000 in
theorem ggX5_digest_X5_cell : GoodIn wsX5_digest wsX5_cell := goodIn_r _ [217, 2, 129, 130, 131, 11, 132, 3, 218, 219, 220, 115, 221, 123, 47, 48, 49, 222, 223, 224, 225, 83, 17, 88, 245, 246, 247, 248, 249, 250, 251, 252, 253, 254, 255, 256, 257, 260, 261, 262, 263, 264, 265, 266, 267, 268, 269, 270] (by decide +kernel) (by decide +kernel)
set_option maxRecDepth 20000 in
theorem gX5_digest_X5_cell : GoodIn wsX5_digest (wsV RX5 248 RX5 yX5_cell wsX5_cell) := goodIn_app (goodIn_of _ (by decide +kernel)) ggX5_digest_X5_cell
set_option maxRecDepth 20000 in
theorem ggX5_digest_X5_count : GoodIn wsX5_digest wsX5_count := goodIn_r _ [229, 2, 83, 230, 17, 19, 202, 231, 232, 233, 5, 6, 234, 47, 48, 11, 49, 235, 236, 237, 238, 3, 35, 36, 37, 27, 38, 39, 40, 41, 42, 43, 29, 44, 45, 46, 239, 240, 241, 242, 243, 244, 68, 69, 70, 71, 72, 73, 245, 246, 247, 248, 249, 250, 251, 252, 253, 254, 255, 256, 257, 260, 261, 262, 263, 264, 265, 266, 267, 268, 269, 270, 258, 259] (by decide +kernel) (by decide +kernel)
set_option maxRecDepth 20000 in
theorem gX5_digest_X5_count : GoodIn wsX5_digest (wsV RX5 254 RX5 yX5_count wsX5_count) := goodIn_app (goodIn_of _ (by decide +kernel)) ggX5_digest_X5_count
theorem dX5_digest_0 : decode cX5_digest 0 = .ok (.ldc2_w 237, 3) := by decide +kernel
theorem dX5_digest_3 : decode cX5_digest 3 = .ok (.lstore_n 1, 1) := by decide +kernel
theorem dX5_digest_4 : decode cX5_digest 4 = .ok (.aload_n 0, 1) := by decide +kernel
theorem dX5_digest_5 : decode cX5_digest 5 = .ok (.getfield 34, 3) := by decide +kernel
theorem dX5_digest_8 : decode cX5_digest 8 = .ok (.getfield 156, 3) := by decide +kernel
theorem dX5_digest_11 : decode cX5_digest 11 = .ok (.ifCond .eq 43, 3) := by decide +kernel
theorem dX5_digest_14 : decode cX5_digest 14 = .ok (.aload_n 0, 1) := by decide +kernel
theorem dX5_digest_15 : decode cX5_digest 15 = .ok (.lload_n 1, 1) := by decide +kernel
theorem dX5_digest_16 : decode cX5_digest 16 = .ok (.invokevirtual 239, 3) := by decide +kernel
theorem dX5_digest_19 : decode cX5_digest 19 = .ok (.lstore_n 1, 1) := by decide +kernel
theorem dX5_digest_20 : decode cX5_digest 20 = .ok (.aload_n 0, 1) := by decide +kernel
theorem dX5_digest_21 : decode cX5_digest 21 = .ok (.lload_n 1, 1) := by decide +kernel
theorem dX5_digest_22 : decode cX5_digest 22 = .ok (.invokevirtual 243, 3) := by decide +kernel
theorem dX5_digest_25 : decode cX5_digest 25 = .ok (.lstore_n 1, 1) := by decide +kernel
theorem dX5_digest_26 : decode cX5_digest 26 = .ok (.iconst 0, 1) := by decide +kernel
theorem dX5_digest_27 : decode cX5_digest 27 = .ok (.istore_n 3, 1) := by decide +kernel
theorem dX5_digest_28 : decode cX5_digest 28 = .ok (.iload_n 3, 1) := by decide +kernel
theorem dX5_digest_29 : decode cX5_digest 29 = .ok (.bipush 36, 2) := by decide +kernel
theorem dX5_digest_31 : decode cX5_digest 31 = .ok (.if_icmp .ge 23, 3) := by decide +kernel
theorem dX5_digest_34 : decode cX5_digest 34 = .ok (.ldc2_w 246, 3) := by decide +kernel
theorem dX5_digest_37 : decode cX5_digest 37 = .ok (.lload_n 1, 1) := by decide +kernel
theorem dX5_digest_38 : decode cX5_digest 38 = .ok (.lmul, 1) := by decide +kernel
theorem dX5_digest_39 : decode cX5_digest 39 = .ok (.aload_n 0, 1) := by decide +kernel
theorem dX5_digest_40 : decode cX5_digest 40 = .ok (.iload_n 3, 1) := by decide +kernel
theorem dX5_digest_41 : decode cX5_digest 41 = .ok (.iconst 0, 1) := by decide +kernel
theorem dX5_digest_42 : decode cX5_digest 42 = .ok (.invokevirtual 248, 3) := by decide +kernel
theorem dX5_digest_45 : decode cX5_digest 45 = .ok (.i2l, 1) := by decide +kernel
theorem dX5_digest_46 : decode cX5_digest 46 = .ok (.ladd, 1) := by decide +kernel
theorem dX5_digest_47 : decode cX5_digest 47 = .ok (.lstore_n 1, 1) := by decide +kernel
theorem dX5_digest_48 : decode cX5_digest 48 = .ok (.iinc 3 1, 3) := by decide +kernel
theorem dX5_digest_51 : decode cX5_digest 51 = .ok (.goto (-23), 3) := by decide +kernel
theorem dX5_digest_54 : decode cX5_digest 54 = .ok (.iconst 0, 1) := by decide +kernel
theorem dX5_digest_55 : decode cX5_digest 55 = .ok (.istore_n 3, 1) := by decide +kernel
theorem dX5_digest_56 : decode cX5_digest 56 = .ok (.iload_n 3, 1) := by decide +kernel
theorem dX5_digest_57 : decode cX5_digest 57 = .ok (.aload_n 0, 1) := by decide +kernel
theorem dX5_digest_58 : decode cX5_digest 58 = .ok (.getfield 10, 3) := by decide +kernel
theorem dX5_digest_61 : decode cX5_digest 61 = .ok (.getfield 60, 3) := by decide +kernel
theorem dX5_digest_64 : decode cX5_digest 64 = .ok (.if_icmp .ge 26, 3) := by decide +kernel
theorem dX5_digest_67 : decode cX5_digest 67 = .ok (.ldc2_w 246, 3) := by decide +kernel
theorem dX5_digest_70 : decode cX5_digest 70 = .ok (.lload_n 1, 1) := by decide +kernel
theorem dX5_digest_71 : decode cX5_digest 71 = .ok (.lmul, 1) := by decide +kernel
theorem dX5_digest_72 : decode cX5_digest 72 = .ok (.aload_n 0, 1) := by decide +kernel
theorem dX5_digest_73 : decode cX5_digest 73 = .ok (.getfield 10, 3) := by decide +kernel
theorem dX5_digest_76 : decode cX5_digest 76 = .ok (.getfield 251, 3) := by decide +kernel
theorem dX5_digest_79 : decode cX5_digest 79 = .ok (.iload_n 3, 1) := by decide +kernel
theorem dX5_digest_80 : decode cX5_digest 80 = .ok (.iaload, 1) := by decide +kernel
theorem dX5_digest_81 : decode cX5_digest 81 = .ok (.i2l, 1) := by decide +kernel
theorem dX5_digest_82 : decode cX5_digest 82 = .ok (.ladd, 1) := by decide +kernel
theorem dX5_digest_83 : decode cX5_digest 83 = .ok (.lstore_n 1, 1) := by decide +kernel
theorem dX5_digest_84 : decode cX5_digest 84 = .ok (.iinc 3 1, 3) := by decide +kernel
theorem dX5_digest_87 : decode cX5_digest 87 = .ok (.goto (-31), 3) := by decide +kernel
theorem dX5_digest_90 : decode cX5_digest 90 = .ok (.iconst 0, 1) := by decide +kernel
theorem dX5_digest_91 : decode cX5_digest 91 = .ok (.istore_n 3, 1) := by decide +kernel
theorem dX5_digest_92 : decode cX5_digest 92 = .ok (.iload_n 3, 1) := by decide +kernel
theorem dX5_digest_93 : decode cX5_digest 93 = .ok (.bipush 10, 2) := by decide +kernel
theorem dX5_digest_95 : decode cX5_digest 95 = .ok (.if_icmp .gt 22, 3) := by decide +kernel
theorem dX5_digest_98 : decode cX5_digest 98 = .ok (.ldc2_w 246, 3) := by decide +kernel
theorem dX5_digest_101 : decode cX5_digest 101 = .ok (.lload_n 1, 1) := by decide +kernel
theorem dX5_digest_102 : decode cX5_digest 102 = .ok (.lmul, 1) := by decide +kernel
theorem dX5_digest_103 : decode cX5_digest 103 = .ok (.aload_n 0, 1) := by decide +kernel
theorem dX5_digest_104 : decode cX5_digest 104 = .ok (.iload_n 3, 1) := by decide +kernel
theorem dX5_digest_105 : decode cX5_digest 105 = .ok (.invokevirtual 254, 3) := by decide +kernel
theorem dX5_digest_108 : decode cX5_digest 108 = .ok (.i2l, 1) := by decide +kernel
theorem dX5_digest_109 : decode cX5_digest 109 = .ok (.ladd, 1) := by decide +kernel
theorem dX5_digest_110 : decode cX5_digest 110 = .ok (.lstore_n 1, 1) := by decide +kernel
theorem dX5_digest_111 : decode cX5_digest 111 = .ok (.iinc 3 1, 3) := by decide +kernel
theorem dX5_digest_114 : decode cX5_digest 114 = .ok (.goto (-22), 3) := by decide +kernel
theorem dX5_digest_117 : decode cX5_digest 117 = .ok (.lload_n 1, 1) := by decide +kernel
theorem dX5_digest_118 : decode cX5_digest 118 = .ok (.lreturn, 1) := by decide +kernel
set_option maxRecDepth 20000 in
theorem ggX5_digestOfLodgers_X5_lodger : GoodIn wsX5_digestOfLodgers wsX5_lodger := goodIn_r _ [6, 7, 8, 9, 10, 11, 12, 5, 13, 14, 15, 16, 17, 18, 19, 20, 21, 22, 23, 24, 25, 26, 27, 28, 29, 30, 31, 32, 33, 34, 35, 36, 37, 38, 39, 40, 41, 42, 43, 44, 45, 46, 47, 48, 49, 50, 51, 52, 53, 54, 55, 56, 57, 58, 59, 60, 61, 62, 63, 64, 65, 66, 67, 68, 69, 70, 71, 72, 73, 74, 75, 76, 77, 78, 79, 80, 81, 82, 83, 84, 85, 86, 87, 88, 89, 90, 91, 92, 93, 94] (by decide +kernel) (by decide +kernel)
set_option maxRecDepth 20000 in
theorem gX5_digestOfLodgers_X5_lodger : GoodIn wsX5_digestOfLodgers (wsV RX5 257 RX5 yX5_lodger wsX5_lodger) := goodIn_app (goodIn_of _ (by decide +kernel)) ggX5_digestOfLodgers_X5_lodger
theorem dX5_digestOfLodgers_0 : decode cX5_digestOfLodgers 0 = .ok (.lload_n 1, 1) := by decide +kernel
theorem dX5_digestOfLodgers_1 : decode cX5_digestOfLodgers 1 = .ok (.lstore_n 3, 1) := by decide +kernel
theorem dX5_digestOfLodgers_2 : decode cX5_digestOfLodgers 2 = .ok (.iconst 0, 1) := by decide +kernel
theorem dX5_digestOfLodgers_3 : decode cX5_digestOfLodgers 3 = .ok (.istore 5, 2) := by decide +kernel
theorem dX5_digestOfLodgers_5 : decode cX5_digestOfLodgers 5 = .ok (.iload 5, 2) := by decide +kernel
theorem dX5_digestOfLodgers_7 : decode cX5_digestOfLodgers 7 = .ok (.iconst 4, 1) := by decide +kernel
theorem dX5_digestOfLodgers_8 : decode cX5_digestOfLodgers 8 = .ok (.if_icmp .ge 40, 3) := by decide +kernel
theorem dX5_digestOfLodgers_11 : decode cX5_digestOfLodgers 11 = .ok (.iconst 0, 1) := by decide +kernel
theorem dX5_digestOfLodgers_12 : decode cX5_digestOfLodgers 12 = .ok (.istore 6, 2) := by decide +kernel
theorem dX5_digestOfLodgers_14 : decode cX5_digestOfLodgers 14 = .ok (.iload 6, 2) := by decide +kernel
theorem dX5_digestOfLodgers_16 : decode cX5_digestOfLodgers 16 = .ok (.iconst 5, 1) := by decide +kernel
theorem dX5_digestOfLodgers_17 : decode cX5_digestOfLodgers 17 = .ok (.if_icmp .gt 25, 3) := by decide +kernel
theorem dX5_digestOfLodgers_20 : decode cX5_digestOfLodgers 20 = .ok (.ldc2_w 246, 3) := by decide +kernel
theorem dX5_digestOfLodgers_23 : decode cX5_digestOfLodgers 23 = .ok (.lload_n 3, 1) := by decide +kernel
theorem dX5_digestOfLodgers_24 : decode cX5_digestOfLodgers 24 = .ok (.lmul, 1) := by decide +kernel
theorem dX5_digestOfLodgers_25 : decode cX5_digestOfLodgers 25 = .ok (.aload_n 0, 1) := by decide +kernel
theorem dX5_digestOfLodgers_26 : decode cX5_digestOfLodgers 26 = .ok (.iload 5, 2) := by decide +kernel
theorem dX5_digestOfLodgers_28 : decode cX5_digestOfLodgers 28 = .ok (.iload 6, 2) := by decide +kernel
theorem dX5_digestOfLodgers_30 : decode cX5_digestOfLodgers 30 = .ok (.invokevirtual 257, 3) := by decide +kernel
theorem dX5_digestOfLodgers_33 : decode cX5_digestOfLodgers 33 = .ok (.i2l, 1) := by decide +kernel
theorem dX5_digestOfLodgers_34 : decode cX5_digestOfLodgers 34 = .ok (.ladd, 1) := by decide +kernel
theorem dX5_digestOfLodgers_35 : decode cX5_digestOfLodgers 35 = .ok (.lstore_n 3, 1) := by decide +kernel
theorem dX5_digestOfLodgers_36 : decode cX5_digestOfLodgers 36 = .ok (.iinc 6 1, 3) := by decide +kernel
theorem dX5_digestOfLodgers_39 : decode cX5_digestOfLodgers 39 = .ok (.goto (-25), 3) := by decide +kernel
theorem dX5_digestOfLodgers_42 : decode cX5_digestOfLodgers 42 = .ok (.iinc 5 1, 3) := by decide +kernel
theorem dX5_digestOfLodgers_45 : decode cX5_digestOfLodgers 45 = .ok (.goto (-40), 3) := by decide +kernel
theorem dX5_digestOfLodgers_48 : decode cX5_digestOfLodgers 48 = .ok (.lload_n 3, 1) := by decide +kernel
theorem dX5_digestOfLodgers_49 : decode cX5_digestOfLodgers 49 = .ok (.lreturn, 1) := by decide +kernel
set_option maxRecDepth 20000 in
theorem ggX5_digestOfShips_X5_ship : GoodIn wsX5_digestOfShips wsX5_ship := goodIn_r _ [8, 9, 10, 11, 12, 13, 14, 7, 15, 1, 16, 2, 17, 18, 19, 20, 21, 22, 23, 24, 25, 26, 27, 28, 29, 30, 31, 32, 33, 34, 35, 36, 37, 38, 39, 40, 41, 42, 43, 44, 45, 46, 47, 48, 49, 50, 51, 52, 53, 54, 55, 56, 57, 58, 59, 60, 61, 159, 160, 161, 162, 163, 164, 165, 166, 167, 172, 173, 174, 175, 176, 177, 178, 179, 180, 181, 182, 168, 169, 170, 171, 183, 184] (by decide +kernel) (by decide +kernel)
set_option maxRecDepth 20000 in
theorem gX5_digestOfShips_X5_ship : GoodIn wsX5_digestOfShips (wsV RX5 260 RX5 yX5_ship wsX5_ship) := goodIn_app (goodIn_of _ (by decide +kernel)) ggX5_digestOfShips_X5_ship
set_option maxRecDepth 20000 in
theorem ggX5_digestOfShips_X5_soon : GoodIn wsX5_digestOfShips wsX5_soon := goodIn_r _ [65, 11, 9, 12, 13, 14, 7, 15, 1, 16, 2, 66, 67, 68, 69, 70, 71, 72, 29, 73, 32, 31, 33, 34, 35, 20, 36, 37, 38, 39, 40, 18, 19, 21, 22, 41, 42, 43, 44, 45, 46, 47, 48, 74, 75, 76, 52, 77, 55, 56, 57, 58, 54, 59, 60, 61, 78, 79, 80, 81, 82, 83, 84, 85, 86, 87, 88, 89, 90, 91, 92, 93, 94, 95, 96, 97, 98, 99, 100, 49, 50, 51, 53, 159, 160, 161, 162, 163, 164, 165, 166, 167, 168, 169, 170, 171, 172, 173, 174, 175, 176, 177, 178, 179, 180, 181, 182, 183, 184] (by decide +kernel) (by decide +kernel)
set_option maxRecDepth 20000 in
theorem gX5_digestOfShips_X5_soon : GoodIn wsX5_digestOfShips (wsV RX5 263 RX5 yX5_soon wsX5_soon) := goodIn_app (goodIn_of _ (by decide +kernel)) ggX5_digestOfShips_X5_soon
set_option maxRecDepth 20000 in
theorem ggX5_digestOfShips_X5_needed : GoodIn wsX5_digestOfShips wsX5_needed := goodIn_r _ [104, 9, 105, 106, 107, 108, 109, 110, 12, 13, 14, 7, 15, 1, 16, 2, 66, 67, 68, 69, 111, 112, 113, 114, 115, 11, 116, 117, 118, 20, 119, 39, 120, 121, 122, 123, 45, 124, 125, 126, 127, 22, 37, 38, 128, 129, 70, 71, 72, 29, 73, 32, 31, 33, 34, 35, 36, 40, 18, 19, 21, 41, 42, 43, 44, 46, 47, 48, 74, 75, 76, 52, 77, 55, 56, 57, 58, 54, 59, 60, 61, 130, 131, 132, 133, 159, 160, 161, 162, 163, 164, 165, 166, 167, 172, 173, 174, 175, 176, 177, 178, 179, 180, 181, 182, 168, 169, 170, 171, 183, 184] (by decide +kernel) (by decide +kernel)
set_option maxRecDepth 20000 in
theorem gX5_digestOfShips_X5_needed : GoodIn wsX5_digestOfShips (wsV RX5 267 RX5 yX5_needed wsX5_needed) := goodIn_app (goodIn_of _ (by decide +kernel)) ggX5_digestOfShips_X5_needed
set_option maxRecDepth 20000 in
theorem ggX5_digestOfShips_X5_brick : GoodIn wsX5_digestOfShips wsX5_brick := goodIn_r _ [137, 11, 9, 106, 12, 13, 14, 7, 15, 1, 16, 2, 66, 67, 68, 69, 70, 71, 72, 29, 73, 32, 31, 33, 34, 35, 20, 36, 37, 38, 39, 40, 18, 19, 21, 22, 41, 42, 43, 44, 45, 46, 47, 48, 74, 75, 76, 52, 77, 55, 56, 57, 58, 54, 59, 60, 61, 130, 131, 132, 133, 111, 112, 113, 114, 115, 105, 116, 117, 118, 119, 120, 121, 122, 123, 124, 125, 126, 127, 128, 129, 159, 160, 161, 162, 163, 164, 165, 166, 167, 172, 173, 174, 175, 176, 177, 178, 179, 180, 181, 182, 168, 169, 170, 171, 183, 184] (by decide +kernel) (by decide +kernel)
set_option maxRecDepth 20000 in
theorem gX5_digestOfShips_X5_brick : GoodIn wsX5_digestOfShips (wsV RX5 270 RX5 yX5_brick wsX5_brick) := goodIn_app (goodIn_of _ (by decide +kernel)) ggX5_digestOfShips_X5_brick
set_option maxRecDepth 20000 in
theorem ggX5_digestOfShips_X5_aside : GoodIn wsX5_digestOfShips wsX5_aside := goodIn_r _ [141, 142, 12, 13, 14, 7, 15, 1, 16, 2, 143, 144, 145, 146, 115, 9, 147, 11, 116, 117, 118, 20, 119, 39, 120, 121, 122, 123, 45, 124, 125, 126, 127, 22, 37, 38, 128, 129, 148, 149, 150, 29, 151, 32, 31, 33, 34, 35, 36, 40, 18, 19, 21, 41, 42, 43, 44, 46, 47, 48, 74, 75, 76, 52, 77, 55, 56, 57, 58, 54, 59, 60, 61, 152, 153, 154, 155, 156, 157, 158, 159, 160, 161, 162, 163, 164, 165, 166, 167, 168, 169, 170, 171, 172, 173, 174, 175, 176, 177, 178, 179, 180, 181, 182, 183, 184] (by decide +kernel) (by decide +kernel)
set_option maxRecDepth 20000 in
theorem gX5_digestOfShips_X5_aside : GoodIn wsX5_digestOfShips (wsV RX5 273 RX5 yX5_aside wsX5_aside) := goodIn_app (goodIn_of _ (by decide +kernel)) ggX5_digestOfShips_X5_aside
theorem dX5_digestOfShips_0 : decode cX5_digestOfShips 0 = .ok (.lload_n 1, 1) := by decide +kernel
theorem dX5_digestOfShips_1 : decode cX5_digestOfShips 1 = .ok (.lstore_n 3, 1) := by decide +kernel
theorem dX5_digestOfShips_2 : decode cX5_digestOfShips 2 = .ok (.iconst 0, 1) := by decide +kernel
theorem dX5_digestOfShips_3 : decode cX5_digestOfShips 3 = .ok (.istore 5, 2) := by decide +kernel
theorem dX5_digestOfShips_5 : decode cX5_digestOfShips 5 = .ok (.iload 5, 2) := by decide +kernel
theorem dX5_digestOfShips_7 : decode cX5_digestOfShips 7 = .ok (.aload_n 0, 1) := by decide +kernel
theorem dX5_digestOfShips_8 : decode cX5_digestOfShips 8 = .ok (.getfield 34, 3) := by decide +kernel
theorem dX5_digestOfShips_11 : decode cX5_digestOfShips 11 = .ok (.getfield 83, 3) := by decide +kernel
theorem dX5_digestOfShips_14 : decode cX5_digestOfShips 14 = .ok (.if_icmp .ge 156, 3) := by decide +kernel
theorem dX5_digestOfShips_17 : decode cX5_digestOfShips 17 = .ok (.iconst 0, 1) := by decide +kernel
theorem dX5_digestOfShips_18 : decode cX5_digestOfShips 18 = .ok (.istore 6, 2) := by decide +kernel
theorem dX5_digestOfShips_20 : decode cX5_digestOfShips 20 = .ok (.iload 6, 2) := by decide +kernel
theorem dX5_digestOfShips_22 : decode cX5_digestOfShips 22 = .ok (.iconst 2, 1) := by decide +kernel
theorem dX5_digestOfShips_23 : decode cX5_digestOfShips 23 = .ok (.if_icmp .gt 25, 3) := by decide +kernel
theorem dX5_digestOfShips_26 : decode cX5_digestOfShips 26 = .ok (.ldc2_w 246, 3) := by decide +kernel
theorem dX5_digestOfShips_29 : decode cX5_digestOfShips 29 = .ok (.lload_n 3, 1) := by decide +kernel
theorem dX5_digestOfShips_30 : decode cX5_digestOfShips 30 = .ok (.lmul, 1) := by decide +kernel
theorem dX5_digestOfShips_31 : decode cX5_digestOfShips 31 = .ok (.aload_n 0, 1) := by decide +kernel
theorem dX5_digestOfShips_32 : decode cX5_digestOfShips 32 = .ok (.iload 5, 2) := by decide +kernel
theorem dX5_digestOfShips_34 : decode cX5_digestOfShips 34 = .ok (.iload 6, 2) := by decide +kernel
theorem dX5_digestOfShips_36 : decode cX5_digestOfShips 36 = .ok (.invokevirtual 260, 3) := by decide +kernel
theorem dX5_digestOfShips_39 : decode cX5_digestOfShips 39 = .ok (.i2l, 1) := by decide +kernel
theorem dX5_digestOfShips_40 : decode cX5_digestOfShips 40 = .ok (.ladd, 1) := by decide +kernel
theorem dX5_digestOfShips_41 : decode cX5_digestOfShips 41 = .ok (.lstore_n 3, 1) := by decide +kernel
theorem dX5_digestOfShips_42 : decode cX5_digestOfShips 42 = .ok (.iinc 6 1, 3) := by decide +kernel
theorem dX5_digestOfShips_45 : decode cX5_digestOfShips 45 = .ok (.goto (-25), 3) := by decide +kernel
theorem dX5_digestOfShips_48 : decode cX5_digestOfShips 48 = .ok (.ldc2_w 246, 3) := by decide +kernel
theorem dX5_digestOfShips_51 : decode cX5_digestOfShips 51 = .ok (.lload_n 3, 1) := by decide +kernel
theorem dX5_digestOfShips_52 : decode cX5_digestOfShips 52 = .ok (.lmul, 1) := by decide +kernel
theorem dX5_digestOfShips_53 : decode cX5_digestOfShips 53 = .ok (.aload_n 0, 1) := by decide +kernel
theorem dX5_digestOfShips_54 : decode cX5_digestOfShips 54 = .ok (.iload 5, 2) := by decide +kernel
theorem dX5_digestOfShips_56 : decode cX5_digestOfShips 56 = .ok (.iconst 0, 1) := by decide +kernel
theorem dX5_digestOfShips_57 : decode cX5_digestOfShips 57 = .ok (.iconst 0, 1) := by decide +kernel
theorem dX5_digestOfShips_58 : decode cX5_digestOfShips 58 = .ok (.invokevirtual 263, 3) := by decide +kernel
theorem dX5_digestOfShips_61 : decode cX5_digestOfShips 61 = .ok (.i2l, 1) := by decide +kernel
theorem dX5_digestOfShips_62 : decode cX5_digestOfShips 62 = .ok (.ladd, 1) := by decide +kernel
theorem dX5_digestOfShips_63 : decode cX5_digestOfShips 63 = .ok (.lstore_n 3, 1) := by decide +kernel
theorem dX5_digestOfShips_64 : decode cX5_digestOfShips 64 = .ok (.ldc2_w 246, 3) := by decide +kernel
theorem dX5_digestOfShips_67 : decode cX5_digestOfShips 67 = .ok (.lload_n 3, 1) := by decide +kernel
theorem dX5_digestOfShips_68 : decode cX5_digestOfShips 68 = .ok (.lmul, 1) := by decide +kernel
theorem dX5_digestOfShips_69 : decode cX5_digestOfShips 69 = .ok (.aload_n 0, 1) := by decide +kernel
theorem dX5_digestOfShips_70 : decode cX5_digestOfShips 70 = .ok (.iload 5, 2) := by decide +kernel
theorem dX5_digestOfShips_72 : decode cX5_digestOfShips 72 = .ok (.iconst 0, 1) := by decide +kernel
theorem dX5_digestOfShips_73 : decode cX5_digestOfShips 73 = .ok (.bipush 10, 2) := by decide +kernel
theorem dX5_digestOfShips_75 : decode cX5_digestOfShips 75 = .ok (.invokevirtual 263, 3) := by decide +kernel
theorem dX5_digestOfShips_78 : decode cX5_digestOfShips 78 = .ok (.i2l, 1) := by decide +kernel
theorem dX5_digestOfShips_79 : decode cX5_digestOfShips 79 = .ok (.ladd, 1) := by decide +kernel
theorem dX5_digestOfShips_80 : decode cX5_digestOfShips 80 = .ok (.lstore_n 3, 1) := by decide +kernel
theorem dX5_digestOfShips_81 : decode cX5_digestOfShips 81 = .ok (.ldc2_w 246, 3) := by decide +kernel
theorem dX5_digestOfShips_84 : decode cX5_digestOfShips 84 = .ok (.lload_n 3, 1) := by decide +kernel
theorem dX5_digestOfShips_85 : decode cX5_digestOfShips 85 = .ok (.lmul, 1) := by decide +kernel
theorem dX5_digestOfShips_86 : decode cX5_digestOfShips 86 = .ok (.aload_n 0, 1) := by decide +kernel
theorem dX5_digestOfShips_87 : decode cX5_digestOfShips 87 = .ok (.iload 5, 2) := by decide +kernel
theorem dX5_digestOfShips_89 : decode cX5_digestOfShips 89 = .ok (.bipush 35, 2) := by decide +kernel
theorem dX5_digestOfShips_91 : decode cX5_digestOfShips 91 = .ok (.iconst 0, 1) := by decide +kernel
theorem dX5_digestOfShips_92 : decode cX5_digestOfShips 92 = .ok (.invokevirtual 263, 3) := by decide +kernel
theorem dX5_digestOfShips_95 : decode cX5_digestOfShips 95 = .ok (.i2l, 1) := by decide +kernel
theorem dX5_digestOfShips_96 : decode cX5_digestOfShips 96 = .ok (.ladd, 1) := by decide +kernel
theorem dX5_digestOfShips_97 : decode cX5_digestOfShips 97 = .ok (.lstore_n 3, 1) := by decide +kernel
theorem dX5_digestOfShips_98 : decode cX5_digestOfShips 98 = .ok (.ldc2_w 246, 3) := by decide +kernel
theorem dX5_digestOfShips_101 : decode cX5_digestOfShips 101 = .ok (.lload_n 3, 1) := by decide +kernel
theorem dX5_digestOfShips_102 : decode cX5_digestOfShips 102 = .ok (.lmul, 1) := by decide +kernel
theorem dX5_digestOfShips_103 : decode cX5_digestOfShips 103 = .ok (.aload_n 0, 1) := by decide +kernel
theorem dX5_digestOfShips_104 : decode cX5_digestOfShips 104 = .ok (.iload 5, 2) := by decide +kernel
theorem dX5_digestOfShips_106 : decode cX5_digestOfShips 106 = .ok (.bipush 35, 2) := by decide +kernel
theorem dX5_digestOfShips_108 : decode cX5_digestOfShips 108 = .ok (.bipush 10, 2) := by decide +kernel
theorem dX5_digestOfShips_110 : decode cX5_digestOfShips 110 = .ok (.invokevirtual 263, 3) := by decide +kernel
theorem dX5_digestOfShips_113 : decode cX5_digestOfShips 113 = .ok (.i2l, 1) := by decide +kernel
theorem dX5_digestOfShips_114 : decode cX5_digestOfShips 114 = .ok (.ladd, 1) := by decide +kernel
theorem dX5_digestOfShips_115 : decode cX5_digestOfShips 115 = .ok (.lstore_n 3, 1) := by decide +kernel
theorem dX5_digestOfShips_116 : decode cX5_digestOfShips 116 = .ok (.ldc2_w 246, 3) := by decide +kernel
theorem dX5_digestOfShips_119 : decode cX5_digestOfShips 119 = .ok (.lload_n 3, 1) := by decide +kernel
theorem dX5_digestOfShips_120 : decode cX5_digestOfShips 120 = .ok (.lmul, 1) := by decide +kernel
theorem dX5_digestOfShips_121 : decode cX5_digestOfShips 121 = .ok (.aload_n 0, 1) := by decide +kernel
theorem dX5_digestOfShips_122 : decode cX5_digestOfShips 122 = .ok (.iload 5, 2) := by decide +kernel
theorem dX5_digestOfShips_124 : decode cX5_digestOfShips 124 = .ok (.bipush 14, 2) := by decide +kernel
theorem dX5_digestOfShips_126 : decode cX5_digestOfShips 126 = .ok (.invokevirtual 267, 3) := by decide +kernel
theorem dX5_digestOfShips_129 : decode cX5_digestOfShips 129 = .ok (.i2l, 1) := by decide +kernel
theorem dX5_digestOfShips_130 : decode cX5_digestOfShips 130 = .ok (.ladd, 1) := by decide +kernel
theorem dX5_digestOfShips_131 : decode cX5_digestOfShips 131 = .ok (.lstore_n 3, 1) := by decide +kernel
theorem dX5_digestOfShips_132 : decode cX5_digestOfShips 132 = .ok (.ldc2_w 246, 3) := by decide +kernel
theorem dX5_digestOfShips_135 : decode cX5_digestOfShips 135 = .ok (.lload_n 3, 1) := by decide +kernel
theorem dX5_digestOfShips_136 : decode cX5_digestOfShips 136 = .ok (.lmul, 1) := by decide +kernel
theorem dX5_digestOfShips_137 : decode cX5_digestOfShips 137 = .ok (.aload_n 0, 1) := by decide +kernel
theorem dX5_digestOfShips_138 : decode cX5_digestOfShips 138 = .ok (.iload 5, 2) := by decide +kernel
theorem dX5_digestOfShips_140 : decode cX5_digestOfShips 140 = .ok (.bipush 14, 2) := by decide +kernel
theorem dX5_digestOfShips_142 : decode cX5_digestOfShips 142 = .ok (.invokevirtual 270, 3) := by decide +kernel
theorem dX5_digestOfShips_145 : decode cX5_digestOfShips 145 = .ok (.i2l, 1) := by decide +kernel
theorem dX5_digestOfShips_146 : decode cX5_digestOfShips 146 = .ok (.ladd, 1) := by decide +kernel
theorem dX5_digestOfShips_147 : decode cX5_digestOfShips 147 = .ok (.lstore_n 3, 1) := by decide +kernel
theorem dX5_digestOfShips_148 : decode cX5_digestOfShips 148 = .ok (.ldc2_w 246, 3) := by decide +kernel
theorem dX5_digestOfShips_151 : decode cX5_digestOfShips 151 = .ok (.lload_n 3, 1) := by decide +kernel
theorem dX5_digestOfShips_152 : decode cX5_digestOfShips 152 = .ok (.lmul, 1) := by decide +kernel
theorem dX5_digestOfShips_153 : decode cX5_digestOfShips 153 = .ok (.aload_n 0, 1) := by decide +kernel
theorem dX5_digestOfShips_154 : decode cX5_digestOfShips 154 = .ok (.iload 5, 2) := by decide +kernel
theorem dX5_digestOfShips_156 : decode cX5_digestOfShips 156 = .ok (.bipush 9, 2) := by decide +kernel
theorem dX5_digestOfShips_158 : decode cX5_digestOfShips 158 = .ok (.invokevirtual 273, 3) := by decide +kernel
theorem dX5_digestOfShips_161 : decode cX5_digestOfShips 161 = .ok (.i2l, 1) := by decide +kernel
theorem dX5_digestOfShips_162 : decode cX5_digestOfShips 162 = .ok (.ladd, 1) := by decide +kernel
theorem dX5_digestOfShips_163 : decode cX5_digestOfShips 163 = .ok (.lstore_n 3, 1) := by decide +kernel
theorem dX5_digestOfShips_164 : decode cX5_digestOfShips 164 = .ok (.iinc 5 1, 3) := by decide +kernel
theorem dX5_digestOfShips_167 : decode cX5_digestOfShips 167 = .ok (.goto (-162), 3) := by decide +kernel
theorem dX5_digestOfShips_170 : decode cX5_digestOfShips 170 = .ok (.lload_n 3, 1) := by decide +kernel
theorem dX5_digestOfShips_171 : decode cX5_digestOfShips 171 = .ok (.lreturn, 1) := by decide +kernel
theorem dX5_namesLodger_0 : decode cX5_namesLodger 0 = .ok (.aload_n 0, 1) := by decide +kernel
theorem dX5_namesLodger_1 : decode cX5_namesLodger 1 = .ok (.getfield 34, 3) := by decide +kernel
theorem dX5_namesLodger_4 : decode cX5_namesLodger 4 = .ok (.getfield 156, 3) := by decide +kernel
theorem dX5_namesLodger_7 : decode cX5_namesLodger 7 = .ok (.ifCond .eq 16, 3) := by decide +kernel
theorem dX5_namesLodger_10 : decode cX5_namesLodger 10 = .ok (.iload_n 1, 1) := by decide +kernel
theorem dX5_namesLodger_11 : decode cX5_namesLodger 11 = .ok (.ifCond .lt 12, 3) := by decide +kernel
theorem dX5_namesLodger_14 : decode cX5_namesLodger 14 = .ok (.iload_n 1, 1) := by decide +kernel
theorem dX5_namesLodger_15 : decode cX5_namesLodger 15 = .ok (.iconst 4, 1) := by decide +kernel
theorem dX5_namesLodger_16 : decode cX5_namesLodger 16 = .ok (.if_icmp .ge 7, 3) := by decide +kernel
theorem dX5_namesLodger_19 : decode cX5_namesLodger 19 = .ok (.iconst 1, 1) := by decide +kernel
theorem dX5_namesLodger_20 : decode cX5_namesLodger 20 = .ok (.goto 4, 3) := by decide +kernel
theorem dX5_namesLodger_23 : decode cX5_namesLodger 23 = .ok (.iconst 0, 1) := by decide +kernel
theorem dX5_namesLodger_24 : decode cX5_namesLodger 24 = .ok (.ireturn, 1) := by decide +kernel
theorem dX5_namesShip_0 : decode cX5_namesShip 0 = .ok (.aload_n 0, 1) := by decide +kernel
theorem dX5_namesShip_1 : decode cX5_namesShip 1 = .ok (.getfield 34, 3) := by decide +kernel
theorem dX5_namesShip_4 : decode cX5_namesShip 4 = .ok (.getfield 156, 3) := by decide +kernel
theorem dX5_namesShip_7 : decode cX5_namesShip 7 = .ok (.ifCond .eq 22, 3) := by decide +kernel
theorem dX5_namesShip_10 : decode cX5_namesShip 10 = .ok (.iload_n 1, 1) := by decide +kernel
theorem dX5_namesShip_11 : decode cX5_namesShip 11 = .ok (.ifCond .lt 18, 3) := by decide +kernel
theorem dX5_namesShip_14 : decode cX5_namesShip 14 = .ok (.iload_n 1, 1) := by decide +kernel
theorem dX5_namesShip_15 : decode cX5_namesShip 15 = .ok (.aload_n 0, 1) := by decide +kernel
theorem dX5_namesShip_16 : decode cX5_namesShip 16 = .ok (.getfield 34, 3) := by decide +kernel
theorem dX5_namesShip_19 : decode cX5_namesShip 19 = .ok (.getfield 83, 3) := by decide +kernel
theorem dX5_namesShip_22 : decode cX5_namesShip 22 = .ok (.if_icmp .ge 7, 3) := by decide +kernel
theorem dX5_namesShip_25 : decode cX5_namesShip 25 = .ok (.iconst 1, 1) := by decide +kernel
theorem dX5_namesShip_26 : decode cX5_namesShip 26 = .ok (.goto 4, 3) := by decide +kernel
theorem dX5_namesShip_29 : decode cX5_namesShip 29 = .ok (.iconst 0, 1) := by decide +kernel
theorem dX5_namesShip_30 : decode cX5_namesShip 30 = .ok (.ireturn, 1) := by decide +kernel
theorem dX5_namesCell_0 : decode cX5_namesCell 0 = .ok (.aload_n 0, 1) := by decide +kernel
theorem dX5_namesCell_1 : decode cX5_namesCell 1 = .ok (.getfield 34, 3) := by decide +kernel
theorem dX5_namesCell_4 : decode cX5_namesCell 4 = .ok (.getfield 156, 3) := by decide +kernel
theorem dX5_namesCell_7 : decode cX5_namesCell 7 = .ok (.ifCond .eq 17, 3) := by decide +kernel
theorem dX5_namesCell_10 : decode cX5_namesCell 10 = .ok (.iload_n 1, 1) := by decide +kernel
theorem dX5_namesCell_11 : decode cX5_namesCell 11 = .ok (.ifCond .lt 13, 3) := by decide +kernel
theorem dX5_namesCell_14 : decode cX5_namesCell 14 = .ok (.iload_n 1, 1) := by decide +kernel
theorem dX5_namesCell_15 : decode cX5_namesCell 15 = .ok (.bipush 36, 2) := by decide +kernel
theorem dX5_namesCell_17 : decode cX5_namesCell 17 = .ok (.if_icmp .ge 7, 3) := by decide +kernel
theorem dX5_namesCell_20 : decode cX5_namesCell 20 = .ok (.iconst 1, 1) := by decide +kernel
theorem dX5_namesCell_21 : decode cX5_namesCell 21 = .ok (.goto 4, 3) := by decide +kernel
theorem dX5_namesCell_24 : decode cX5_namesCell 24 = .ok (.iconst 0, 1) := by decide +kernel
theorem dX5_namesCell_25 : decode cX5_namesCell 25 = .ok (.ireturn, 1) := by decide +kernel
theorem dX5_isKind_0 : decode cX5_isKind 0 = .ok (.iload_n 0, 1) := by decide +kernel
theorem dX5_isKind_1 : decode cX5_isKind 1 = .ok (.ifCond .lt 12, 3) := by decide +kernel
theorem dX5_isKind_4 : decode cX5_isKind 4 = .ok (.iload_n 0, 1) := by decide +kernel
theorem dX5_isKind_5 : decode cX5_isKind 5 = .ok (.iconst 5, 1) := by decide +kernel
theorem dX5_isKind_6 : decode cX5_isKind 6 = .ok (.if_icmp .ge 7, 3) := by decide +kernel
theorem dX5_isKind_9 : decode cX5_isKind 9 = .ok (.iconst 1, 1) := by decide +kernel
theorem dX5_isKind_10 : decode cX5_isKind 10 = .ok (.goto 4, 3) := by decide +kernel
theorem dX5_isKind_13 : decode cX5_isKind 13 = .ok (.iconst 0, 1) := by decide +kernel
theorem dX5_isKind_14 : decode cX5_isKind 14 = .ok (.ireturn, 1) := by decide +kernel
theorem dX5_isSuch_0 : decode cX5_isSuch 0 = .ok (.iload_n 1, 1) := by decide +kernel
theorem dX5_isSuch_1 : decode cX5_isSuch 1 = .ok (.ifCond .eq 18, 3) := by decide +kernel
theorem dX5_isSuch_4 : decode cX5_isSuch 4 = .ok (.iload_n 1, 1) := by decide +kernel
theorem dX5_isSuch_5 : decode cX5_isSuch 5 = .ok (.iload_n 0, 1) := by decide +kernel
theorem dX5_isSuch_6 : decode cX5_isSuch 6 = .ok (.if_icmp .eq 13, 3) := by decide +kernel
theorem dX5_isSuch_9 : decode cX5_isSuch 9 = .ok (.iload_n 1, 1) := by decide +kernel
theorem dX5_isSuch_10 : decode cX5_isSuch 10 = .ok (.iconst 1, 1) := by decide +kernel
theorem dX5_isSuch_11 : decode cX5_isSuch 11 = .ok (.if_icmp .ne 12, 3) := by decide +kernel
theorem dX5_isSuch_14 : decode cX5_isSuch 14 = .ok (.iload_n 0, 1) := by decide +kernel
theorem dX5_isSuch_15 : decode cX5_isSuch 15 = .ok (.iconst 4, 1) := by decide +kernel
theorem dX5_isSuch_16 : decode cX5_isSuch 16 = .ok (.if_icmp .ne 7, 3) := by decide +kernel
theorem dX5_isSuch_19 : decode cX5_isSuch 19 = .ok (.iconst 1, 1) := by decide +kernel
theorem dX5_isSuch_20 : decode cX5_isSuch 20 = .ok (.goto 4, 3) := by decide +kernel
theorem dX5_isSuch_23 : decode cX5_isSuch 23 = .ok (.iconst 0, 1) := by decide +kernel
theorem dX5_isSuch_24 : decode cX5_isSuch 24 = .ok (.ireturn, 1) := by decide +kernel
theorem dX5_asBit_0 : decode cX5_asBit 0 = .ok (.iload_n 0, 1) := by decide +kernel
theorem dX5_asBit_1 : decode cX5_asBit 1 = .ok (.ifCond .eq 7, 3) := by decide +kernel
theorem dX5_asBit_4 : decode cX5_asBit 4 = .ok (.iconst 1, 1) := by decide +kernel
theorem dX5_asBit_5 : decode cX5_asBit 5 = .ok (.goto 4, 3) := by decide +kernel
theorem dX5_asBit_8 : decode cX5_asBit 8 = .ok (.iconst 0, 1) := by decide +kernel
theorem dX5_asBit_9 : decode cX5_asBit 9 = .ok (.ireturn, 1) := by decide +kernel
theorem dX5_endlessIfNone_0 : decode cX5_endlessIfNone 0 = .ok (.iload_n 0, 1) := by decide +kernel
theorem dX5_endlessIfNone_1 : decode cX5_endlessIfNone 1 = .ok (.iconst (-1), 1) := by decide +kernel
theorem dX5_endlessIfNone_2 : decode cX5_endlessIfNone 2 = .ok (.if_icmp .ne 9, 3) := by decide +kernel
theorem dX5_endlessIfNone_5 : decode cX5_endlessIfNone 5 = .ok (.ldc_w 276, 3) := by decide +kernel
theorem dX5_endlessIfNone_8 : decode cX5_endlessIfNone 8 = .ok (.goto 4, 3) := by decide +kernel
theorem dX5_endlessIfNone_11 : decode cX5_endlessIfNone 11 = .ok (.iload_n 0, 1) := by decide +kernel
theorem dX5_endlessIfNone_12 : decode cX5_endlessIfNone 12 = .ok (.ireturn, 1) := by decide +kernel
theorem dX5_shipsIn_0 : decode cX5_shipsIn 0 = .ok (.iconst 0, 1) := by decide +kernel
theorem dX5_shipsIn_1 : decode cX5_shipsIn 1 = .ok (.istore_n 2, 1) := by decide +kernel
theorem dX5_shipsIn_2 : decode cX5_shipsIn 2 = .ok (.iconst 0, 1) := by decide +kernel
theorem dX5_shipsIn_3 : decode cX5_shipsIn 3 = .ok (.istore_n 3, 1) := by decide +kernel
theorem dX5_shipsIn_4 : decode cX5_shipsIn 4 = .ok (.iload_n 3, 1) := by decide +kernel
theorem dX5_shipsIn_5 : decode cX5_shipsIn 5 = .ok (.aload_n 0, 1) := by decide +kernel
theorem dX5_shipsIn_6 : decode cX5_shipsIn 6 = .ok (.getfield 34, 3) := by decide +kernel
theorem dX5_shipsIn_9 : decode cX5_shipsIn 9 = .ok (.getfield 83, 3) := by decide +kernel
theorem dX5_shipsIn_12 : decode cX5_shipsIn 12 = .ok (.if_icmp .ge 28, 3) := by decide +kernel
theorem dX5_shipsIn_15 : decode cX5_shipsIn 15 = .ok (.aload_n 0, 1) := by decide +kernel
theorem dX5_shipsIn_16 : decode cX5_shipsIn 16 = .ok (.getfield 38, 3) := by decide +kernel
theorem dX5_shipsIn_19 : decode cX5_shipsIn 19 = .ok (.getfield 127, 3) := by decide +kernel
theorem dX5_shipsIn_22 : decode cX5_shipsIn 22 = .ok (.iload_n 3, 1) := by decide +kernel
theorem dX5_shipsIn_23 : decode cX5_shipsIn 23 = .ok (.iaload, 1) := by decide +kernel
theorem dX5_shipsIn_24 : decode cX5_shipsIn 24 = .ok (.iload_n 1, 1) := by decide +kernel
theorem dX5_shipsIn_25 : decode cX5_shipsIn 25 = .ok (.if_icmp .ne 9, 3) := by decide +kernel
theorem dX5_shipsIn_28 : decode cX5_shipsIn 28 = .ok (.iload_n 2, 1) := by decide +kernel
theorem dX5_shipsIn_29 : decode cX5_shipsIn 29 = .ok (.iconst 1, 1) := by decide +kernel
theorem dX5_shipsIn_30 : decode cX5_shipsIn 30 = .ok (.iload_n 3, 1) := by decide +kernel
theorem dX5_shipsIn_31 : decode cX5_shipsIn 31 = .ok (.ishl, 1) := by decide +kernel
theorem dX5_shipsIn_32 : decode cX5_shipsIn 32 = .ok (.ior, 1) := by decide +kernel
theorem dX5_shipsIn_33 : decode cX5_shipsIn 33 = .ok (.istore_n 2, 1) := by decide +kernel
theorem dX5_shipsIn_34 : decode cX5_shipsIn 34 = .ok (.iinc 3 1, 3) := by decide +kernel
theorem dX5_shipsIn_37 : decode cX5_shipsIn 37 = .ok (.goto (-33), 3) := by decide +kernel
theorem dX5_shipsIn_40 : decode cX5_shipsIn 40 = .ok (.iload_n 2, 1) := by decide +kernel
theorem dX5_shipsIn_41 : decode cX5_shipsIn 41 = .ok (.ireturn, 1) := by decide +kernel
set_option maxRecDepth 20000 in
theorem ggX5_daysIfIllUntil_X2_copyFrom : GoodIn wsX5_daysIfIllUntil wsX2_copyFrom := goodIn_r _ [9, 10, 11, 12, 13, 14, 15, 16, 17, 18, 19, 20, 21, 22, 23, 24, 69, 70, 71, 72, 73, 74, 75, 76, 77, 78, 79] (by decide +kernel) (by decide +kernel)
set_option maxRecDepth 20000 in
theorem gX5_daysIfIllUntil_X2_copyFrom : GoodIn wsX5_daysIfIllUntil (wsV RX5 214 RX2 yX2_copyFrom wsX2_copyFrom) := goodIn_app (goodIn_of _ (by decide +kernel)) ggX5_daysIfIllUntil_X2_copyFrom
set_option maxRecDepth 20000 in
theorem ggX5_daysIfIllUntil_X4_daysTo : GoodIn wsX5_daysIfIllUntil wsX4_daysTo := goodIn_r _ [29, 30, 31, 32, 33, 34, 8, 35, 21, 22, 10, 36, 37, 38, 39, 20, 40, 41, 42, 43, 15, 44, 45, 46, 47, 48, 49, 50, 51, 52, 53, 54, 55, 56, 57, 58, 59, 69, 70, 71, 72, 73, 74, 75, 76, 77, 78, 79, 80, 81, 82, 83, 84, 85] (by decide +kernel) (by decide +kernel)
set_option maxRecDepth 20000 in
theorem gX5_daysIfIllUntil_X4_daysTo : GoodIn wsX5_daysIfIllUntil (wsV RX5 172 RX4 yX4_daysTo wsX4_daysTo) := goodIn_app (goodIn_of _ (by decide +kernel)) ggX5_daysIfIllUntil_X4_daysTo
theorem dX5_daysIfIllUntil_0 : decode cX5_daysIfIllUntil 0 = .ok (.aload_n 0, 1) := by decide +kernel
theorem dX5_daysIfIllUntil_1 : decode cX5_daysIfIllUntil 1 = .ok (.getfield 45, 3) := by decide +kernel
theorem dX5_daysIfIllUntil_4 : decode cX5_daysIfIllUntil 4 = .ok (.aload_n 0, 1) := by decide +kernel
theorem dX5_daysIfIllUntil_5 : decode cX5_daysIfIllUntil 5 = .ok (.getfield 38, 3) := by decide +kernel
theorem dX5_daysIfIllUntil_8 : decode cX5_daysIfIllUntil 8 = .ok (.invokevirtual 214, 3) := by decide +kernel
theorem dX5_daysIfIllUntil_11 : decode cX5_daysIfIllUntil 11 = .ok (.aload_n 0, 1) := by decide +kernel
theorem dX5_daysIfIllUntil_12 : decode cX5_daysIfIllUntil 12 = .ok (.getfield 45, 3) := by decide +kernel
theorem dX5_daysIfIllUntil_15 : decode cX5_daysIfIllUntil 15 = .ok (.getfield 162, 3) := by decide +kernel
theorem dX5_daysIfIllUntil_18 : decode cX5_daysIfIllUntil 18 = .ok (.iload_n 1, 1) := by decide +kernel
theorem dX5_daysIfIllUntil_19 : decode cX5_daysIfIllUntil 19 = .ok (.iload_n 2, 1) := by decide +kernel
theorem dX5_daysIfIllUntil_20 : decode cX5_daysIfIllUntil 20 = .ok (.iastore, 1) := by decide +kernel
theorem dX5_daysIfIllUntil_21 : decode cX5_daysIfIllUntil 21 = .ok (.aload_n 0, 1) := by decide +kernel
theorem dX5_daysIfIllUntil_22 : decode cX5_daysIfIllUntil 22 = .ok (.getfield 26, 3) := by decide +kernel
theorem dX5_daysIfIllUntil_25 : decode cX5_daysIfIllUntil 25 = .ok (.aload_n 0, 1) := by decide +kernel
theorem dX5_daysIfIllUntil_26 : decode cX5_daysIfIllUntil 26 = .ok (.getfield 45, 3) := by decide +kernel
theorem dX5_daysIfIllUntil_29 : decode cX5_daysIfIllUntil 29 = .ok (.iload_n 3, 1) := by decide +kernel
theorem dX5_daysIfIllUntil_30 : decode cX5_daysIfIllUntil 30 = .ok (.iload 4, 2) := by decide +kernel
theorem dX5_daysIfIllUntil_32 : decode cX5_daysIfIllUntil 32 = .ok (.invokevirtual 172, 3) := by decide +kernel
theorem dX5_daysIfIllUntil_35 : decode cX5_daysIfIllUntil 35 = .ok (.ireturn, 1) := by decide +kernel
set_option maxRecDepth 20000 in
theorem ggX5_placesIfHired_X2_copyFrom : GoodIn wsX5_placesIfHired wsX2_copyFrom := goodIn_r _ [9, 10, 11, 12, 13, 14, 15, 16, 17, 18, 19, 20, 21, 22, 23, 24, 69, 70, 71, 72, 73, 74, 75, 76, 77, 78, 79] (by decide +kernel) (by decide +kernel)
set_option maxRecDepth 20000 in
theorem gX5_placesIfHired_X2_copyFrom : GoodIn wsX5_placesIfHired (wsV RX5 214 RX2 yX2_copyFrom wsX2_copyFrom) := goodIn_app (goodIn_of _ (by decide +kernel)) ggX5_placesIfHired_X2_copyFrom
set_option maxRecDepth 20000 in
theorem ggX5_placesIfHired_X4_placesAfter : GoodIn wsX5_placesIfHired wsX4_placesAfter := goodIn_r _ [29, 30, 31, 32, 33, 34, 8, 35, 21, 22, 10, 36, 37, 38, 39, 20, 40, 41, 42, 43, 15, 44, 45, 46, 47, 48, 49, 50, 51, 52, 53, 54, 55, 56, 57, 58, 59, 69, 70, 71, 72, 73, 74, 75, 76, 77, 78, 79, 80, 81, 82, 83, 84, 85] (by decide +kernel) (by decide +kernel)
set_option maxRecDepth 20000 in
theorem gX5_placesIfHired_X4_placesAfter : GoodIn wsX5_placesIfHired (wsV RX5 168 RX4 yX4_placesAfter wsX4_placesAfter) := goodIn_app (goodIn_of _ (by decide +kernel)) ggX5_placesIfHired_X4_placesAfter
theorem dX5_placesIfHired_0 : decode cX5_placesIfHired 0 = .ok (.aload_n 0, 1) := by decide +kernel
theorem dX5_placesIfHired_1 : decode cX5_placesIfHired 1 = .ok (.getfield 45, 3) := by decide +kernel
theorem dX5_placesIfHired_4 : decode cX5_placesIfHired 4 = .ok (.aload_n 0, 1) := by decide +kernel
theorem dX5_placesIfHired_5 : decode cX5_placesIfHired 5 = .ok (.getfield 38, 3) := by decide +kernel
theorem dX5_placesIfHired_8 : decode cX5_placesIfHired 8 = .ok (.invokevirtual 214, 3) := by decide +kernel
theorem dX5_placesIfHired_11 : decode cX5_placesIfHired 11 = .ok (.aload_n 0, 1) := by decide +kernel
theorem dX5_placesIfHired_12 : decode cX5_placesIfHired 12 = .ok (.getfield 45, 3) := by decide +kernel
theorem dX5_placesIfHired_15 : decode cX5_placesIfHired 15 = .ok (.iload_n 1, 1) := by decide +kernel
theorem dX5_placesIfHired_16 : decode cX5_placesIfHired 16 = .ok (.putfield 165, 3) := by decide +kernel
theorem dX5_placesIfHired_19 : decode cX5_placesIfHired 19 = .ok (.aload_n 0, 1) := by decide +kernel
theorem dX5_placesIfHired_20 : decode cX5_placesIfHired 20 = .ok (.getfield 26, 3) := by decide +kernel
theorem dX5_placesIfHired_23 : decode cX5_placesIfHired 23 = .ok (.aload_n 0, 1) := by decide +kernel
theorem dX5_placesIfHired_24 : decode cX5_placesIfHired 24 = .ok (.getfield 45, 3) := by decide +kernel
theorem dX5_placesIfHired_27 : decode cX5_placesIfHired 27 = .ok (.iload_n 2, 1) := by decide +kernel
theorem dX5_placesIfHired_28 : decode cX5_placesIfHired 28 = .ok (.iload_n 3, 1) := by decide +kernel
theorem dX5_placesIfHired_29 : decode cX5_placesIfHired 29 = .ok (.invokevirtual 168, 3) := by decide +kernel
theorem dX5_placesIfHired_32 : decode cX5_placesIfHired 32 = .ok (.lreturn, 1) := by decide +kernel
set_option maxRecDepth 20000 in
theorem ggX5_lodgersUp_X2_isUp : GoodIn wsX5_lodgersUp wsX2_isUp := goodIn_r _ [9, 10, 11, 12, 13, 8, 14, 15, 16, 17, 18, 36, 37, 38, 39, 40, 41, 42, 43, 44, 45, 46] (by decide +kernel) (by decide +kernel)
set_option maxRecDepth 20000 in
theorem gX5_lodgersUp_X2_isUp : GoodIn wsX5_lodgersUp (wsV RX5 100 RX2 yX2_isUp wsX2_isUp) := goodIn_app (goodIn_of _ (by decide +kernel)) ggX5_lodgersUp_X2_isUp
set_option maxRecDepth 20000 in
theorem ggX5_lodgersUp_X5_asBit : GoodIn wsX5_lodgersUp wsX5_asBit := goodIn_r _ [22] (by decide +kernel) (by decide +kernel)
set_option maxRecDepth 20000 in
theorem gX5_lodgersUp_X5_asBit : GoodIn wsX5_lodgersUp (va_wsS RX5 104 yX5_asBit wsX5_asBit) := goodIn_app (goodIn_of _ (by decide +kernel)) ggX5_lodgersUp_X5_asBit
theorem dX5_lodgersUp_0 : decode cX5_lodgersUp 0 = .ok (.iconst 0, 1) := by decide +kernel
theorem dX5_lodgersUp_1 : decode cX5_lodgersUp 1 = .ok (.istore_n 1, 1) := by decide +kernel
theorem dX5_lodgersUp_2 : decode cX5_lodgersUp 2 = .ok (.iconst 0, 1) := by decide +kernel
theorem dX5_lodgersUp_3 : decode cX5_lodgersUp 3 = .ok (.istore_n 2, 1) := by decide +kernel
theorem dX5_lodgersUp_4 : decode cX5_lodgersUp 4 = .ok (.aload_n 0, 1) := by decide +kernel
theorem dX5_lodgersUp_5 : decode cX5_lodgersUp 5 = .ok (.getfield 34, 3) := by decide +kernel
theorem dX5_lodgersUp_8 : decode cX5_lodgersUp 8 = .ok (.getfield 156, 3) := by decide +kernel
theorem dX5_lodgersUp_11 : decode cX5_lodgersUp 11 = .ok (.ifCond .eq 35, 3) := by decide +kernel
theorem dX5_lodgersUp_14 : decode cX5_lodgersUp 14 = .ok (.iload_n 2, 1) := by decide +kernel
theorem dX5_lodgersUp_15 : decode cX5_lodgersUp 15 = .ok (.iconst 4, 1) := by decide +kernel
theorem dX5_lodgersUp_16 : decode cX5_lodgersUp 16 = .ok (.if_icmp .ge 30, 3) := by decide +kernel
theorem dX5_lodgersUp_19 : decode cX5_lodgersUp 19 = .ok (.iload_n 1, 1) := by decide +kernel
theorem dX5_lodgersUp_20 : decode cX5_lodgersUp 20 = .ok (.aload_n 0, 1) := by decide +kernel
theorem dX5_lodgersUp_21 : decode cX5_lodgersUp 21 = .ok (.getfield 38, 3) := by decide +kernel
theorem dX5_lodgersUp_24 : decode cX5_lodgersUp 24 = .ok (.iload_n 2, 1) := by decide +kernel
theorem dX5_lodgersUp_25 : decode cX5_lodgersUp 25 = .ok (.aload_n 0, 1) := by decide +kernel
theorem dX5_lodgersUp_26 : decode cX5_lodgersUp 26 = .ok (.getfield 38, 3) := by decide +kernel
theorem dX5_lodgersUp_29 : decode cX5_lodgersUp 29 = .ok (.getfield 97, 3) := by decide +kernel
theorem dX5_lodgersUp_32 : decode cX5_lodgersUp 32 = .ok (.invokevirtual 100, 3) := by decide +kernel
theorem dX5_lodgersUp_35 : decode cX5_lodgersUp 35 = .ok (.invokestatic 104, 3) := by decide +kernel
theorem dX5_lodgersUp_38 : decode cX5_lodgersUp 38 = .ok (.iadd, 1) := by decide +kernel
theorem dX5_lodgersUp_39 : decode cX5_lodgersUp 39 = .ok (.istore_n 1, 1) := by decide +kernel
theorem dX5_lodgersUp_40 : decode cX5_lodgersUp 40 = .ok (.iinc 2 1, 3) := by decide +kernel
theorem dX5_lodgersUp_43 : decode cX5_lodgersUp 43 = .ok (.goto (-39), 3) := by decide +kernel
theorem dX5_lodgersUp_46 : decode cX5_lodgersUp 46 = .ok (.iload_n 1, 1) := by decide +kernel
theorem dX5_lodgersUp_47 : decode cX5_lodgersUp 47 = .ok (.ireturn, 1) := by decide +kernel
set_option maxRecDepth 20000 in
theorem ggX5_lodgersIll_X2_isIll : GoodIn wsX5_lodgersIll wsX2_isIll := goodIn_r _ [7, 8, 22, 23, 24, 25, 26, 27, 28, 29, 30, 31, 32] (by decide +kernel) (by decide +kernel)
set_option maxRecDepth 20000 in
theorem gX5_lodgersIll_X2_isIll : GoodIn wsX5_lodgersIll (wsV RX5 277 RX2 yX2_isIll wsX2_isIll) := goodIn_app (goodIn_of _ (by decide +kernel)) ggX5_lodgersIll_X2_isIll
set_option maxRecDepth 20000 in
theorem ggX5_lodgersIll_X5_asBit : GoodIn wsX5_lodgersIll wsX5_asBit := goodIn_r _ [12] (by decide +kernel) (by decide +kernel)
set_option maxRecDepth 20000 in
theorem gX5_lodgersIll_X5_asBit : GoodIn wsX5_lodgersIll (va_wsS RX5 104 yX5_asBit wsX5_asBit) := goodIn_app (goodIn_of _ (by decide +kernel)) ggX5_lodgersIll_X5_asBit
theorem dX5_lodgersIll_0 : decode cX5_lodgersIll 0 = .ok (.iconst 0, 1) := by decide +kernel
theorem dX5_lodgersIll_1 : decode cX5_lodgersIll 1 = .ok (.istore_n 1, 1) := by decide +kernel
theorem dX5_lodgersIll_2 : decode cX5_lodgersIll 2 = .ok (.iconst 0, 1) := by decide +kernel
theorem dX5_lodgersIll_3 : decode cX5_lodgersIll 3 = .ok (.istore_n 2, 1) := by decide +kernel
theorem dX5_lodgersIll_4 : decode cX5_lodgersIll 4 = .ok (.iload_n 2, 1) := by decide +kernel
theorem dX5_lodgersIll_5 : decode cX5_lodgersIll 5 = .ok (.iconst 4, 1) := by decide +kernel
theorem dX5_lodgersIll_6 : decode cX5_lodgersIll 6 = .ok (.if_icmp .ge 30, 3) := by decide +kernel
theorem dX5_lodgersIll_9 : decode cX5_lodgersIll 9 = .ok (.iload_n 1, 1) := by decide +kernel
theorem dX5_lodgersIll_10 : decode cX5_lodgersIll 10 = .ok (.aload_n 0, 1) := by decide +kernel
theorem dX5_lodgersIll_11 : decode cX5_lodgersIll 11 = .ok (.getfield 38, 3) := by decide +kernel
theorem dX5_lodgersIll_14 : decode cX5_lodgersIll 14 = .ok (.iload_n 2, 1) := by decide +kernel
theorem dX5_lodgersIll_15 : decode cX5_lodgersIll 15 = .ok (.aload_n 0, 1) := by decide +kernel
theorem dX5_lodgersIll_16 : decode cX5_lodgersIll 16 = .ok (.getfield 38, 3) := by decide +kernel
theorem dX5_lodgersIll_19 : decode cX5_lodgersIll 19 = .ok (.getfield 97, 3) := by decide +kernel
theorem dX5_lodgersIll_22 : decode cX5_lodgersIll 22 = .ok (.invokevirtual 277, 3) := by decide +kernel
theorem dX5_lodgersIll_25 : decode cX5_lodgersIll 25 = .ok (.invokestatic 104, 3) := by decide +kernel
theorem dX5_lodgersIll_28 : decode cX5_lodgersIll 28 = .ok (.iadd, 1) := by decide +kernel
theorem dX5_lodgersIll_29 : decode cX5_lodgersIll 29 = .ok (.istore_n 1, 1) := by decide +kernel
theorem dX5_lodgersIll_30 : decode cX5_lodgersIll 30 = .ok (.iinc 2 1, 3) := by decide +kernel
theorem dX5_lodgersIll_33 : decode cX5_lodgersIll 33 = .ok (.goto (-29), 3) := by decide +kernel
theorem dX5_lodgersIll_36 : decode cX5_lodgersIll 36 = .ok (.iload_n 1, 1) := by decide +kernel
theorem dX5_lodgersIll_37 : decode cX5_lodgersIll 37 = .ok (.ireturn, 1) := by decide +kernel
theorem dX6_init_0 : decode cX6_init 0 = .ok (.aload_n 0, 1) := by decide +kernel
theorem dX6_init_1 : decode cX6_init 1 = .ok (.invokespecial 1, 3) := by decide +kernel
theorem dX6_init_4 : decode cX6_init 4 = .ok (.aload_n 0, 1) := by decide +kernel
theorem dX6_init_5 : decode cX6_init 5 = .ok (.bipush 40, 2) := by decide +kernel
theorem dX6_init_7 : decode cX6_init 7 = .ok (.newarray .int, 2) := by decide +kernel
theorem dX6_init_9 : decode cX6_init 9 = .ok (.putfield 7, 3) := by decide +kernel
theorem dX6_init_12 : decode cX6_init 12 = .ok (.aload_n 0, 1) := by decide +kernel
theorem dX6_init_13 : decode cX6_init 13 = .ok (.iconst 4, 1) := by decide +kernel
theorem dX6_init_14 : decode cX6_init 14 = .ok (.newarray .int, 2) := by decide +kernel
theorem dX6_init_16 : decode cX6_init 16 = .ok (.putfield 13, 3) := by decide +kernel
theorem dX6_init_19 : decode cX6_init 19 = .ok (.aload_n 0, 1) := by decide +kernel
theorem dX6_init_20 : decode cX6_init 20 = .ok (.iconst 4, 1) := by decide +kernel
theorem dX6_init_21 : decode cX6_init 21 = .ok (.newarray .int, 2) := by decide +kernel
theorem dX6_init_23 : decode cX6_init 23 = .ok (.putfield 16, 3) := by decide +kernel
theorem dX6_init_26 : decode cX6_init 26 = .ok (.aload_n 0, 1) := by decide +kernel
theorem dX6_init_27 : decode cX6_init 27 = .ok (.iconst 3, 1) := by decide +kernel
theorem dX6_init_28 : decode cX6_init 28 = .ok (.newarray .int, 2) := by decide +kernel
theorem dX6_init_30 : decode cX6_init 30 = .ok (.putfield 19, 3) := by decide +kernel
theorem dX6_init_33 : decode cX6_init 33 = .ok (.aload_n 0, 1) := by decide +kernel
theorem dX6_init_34 : decode cX6_init 34 = .ok (.iconst 3, 1) := by decide +kernel
theorem dX6_init_35 : decode cX6_init 35 = .ok (.newarray .int, 2) := by decide +kernel
theorem dX6_init_37 : decode cX6_init 37 = .ok (.putfield 22, 3) := by decide +kernel
theorem dX6_init_40 : decode cX6_init 40 = .ok (.aload_n 0, 1) := by decide +kernel
theorem dX6_init_41 : decode cX6_init 41 = .ok (.bipush 42, 2) := by decide +kernel
theorem dX6_init_43 : decode cX6_init 43 = .ok (.newarray .long, 2) := by decide +kernel
theorem dX6_init_45 : decode cX6_init 45 = .ok (.putfield 25, 3) := by decide +kernel
theorem dX6_init_48 : decode cX6_init 48 = .ok (.aload_n 0, 1) := by decide +kernel
theorem dX6_init_49 : decode cX6_init 49 = .ok (.bipush 18, 2) := by decide +kernel
theorem dX6_init_51 : decode cX6_init 51 = .ok (.newarray .int, 2) := by decide +kernel
theorem dX6_init_53 : decode cX6_init 53 = .ok (.putfield 29, 3) := by decide +kernel
theorem dX6_init_56 : decode cX6_init 56 = .ok (.aload_n 0, 1) := by decide +kernel
theorem dX6_init_57 : decode cX6_init 57 = .ok (.iconst 3, 1) := by decide +kernel
theorem dX6_init_58 : decode cX6_init 58 = .ok (.newarray .int, 2) := by decide +kernel
theorem dX6_init_60 : decode cX6_init 60 = .ok (.putfield 32, 3) := by decide +kernel
theorem dX6_init_63 : decode cX6_init 63 = .ok (.aload_n 0, 1) := by decide +kernel
theorem dX6_init_64 : decode cX6_init 64 = .ok (.iconst 4, 1) := by decide +kernel
theorem dX6_init_65 : decode cX6_init 65 = .ok (.newarray .int, 2) := by decide +kernel
theorem dX6_init_67 : decode cX6_init 67 = .ok (.putfield 35, 3) := by decide +kernel
theorem dX6_init_70 : decode cX6_init 70 = .ok (.aload_n 0, 1) := by decide +kernel
theorem dX6_init_71 : decode cX6_init 71 = .ok (.iconst 4, 1) := by decide +kernel
theorem dX6_init_72 : decode cX6_init 72 = .ok (.newarray .int, 2) := by decide +kernel
theorem dX6_init_74 : decode cX6_init 74 = .ok (.putfield 38, 3) := by decide +kernel
theorem dX6_init_77 : decode cX6_init 77 = .ok (.aload_n 0, 1) := by decide +kernel
theorem dX6_init_78 : decode cX6_init 78 = .ok (.iconst 3, 1) := by decide +kernel
theorem dX6_init_79 : decode cX6_init 79 = .ok (.newarray .int, 2) := by decide +kernel
theorem dX6_init_81 : decode cX6_init 81 = .ok (.putfield 41, 3) := by decide +kernel
theorem dX6_init_84 : decode cX6_init 84 = .ok (.aload_n 0, 1) := by decide +kernel
theorem dX6_init_85 : decode cX6_init 85 = .ok (.iconst 3, 1) := by decide +kernel
theorem dX6_init_86 : decode cX6_init 86 = .ok (.newarray .int, 2) := by decide +kernel
theorem dX6_init_88 : decode cX6_init 88 = .ok (.putfield 44, 3) := by decide +kernel
theorem dX6_init_91 : decode cX6_init 91 = .ok (.aload_n 0, 1) := by decide +kernel
theorem dX6_init_92 : decode cX6_init 92 = .ok (.bipush 18, 2) := by decide +kernel
theorem dX6_init_94 : decode cX6_init 94 = .ok (.newarray .int, 2) := by decide +kernel
theorem dX6_init_96 : decode cX6_init 96 = .ok (.putfield 47, 3) := by decide +kernel
theorem dX6_init_99 : decode cX6_init 99 = .ok (.aload_n 0, 1) := by decide +kernel
theorem dX6_init_100 : decode cX6_init 100 = .ok (.iconst (-1), 1) := by decide +kernel
theorem dX6_init_101 : decode cX6_init 101 = .ok (.putfield 50, 3) := by decide +kernel
theorem dX6_init_104 : decode cX6_init 104 = .ok (.return_, 1) := by decide +kernel
theorem dX6_in_0 : decode cX6_in 0 = .ok (.lload_n 0, 1) := by decide +kernel
theorem dX6_in_1 : decode cX6_in 1 = .ok (.lload_n 2, 1) := by decide +kernel
theorem dX6_in_2 : decode cX6_in 2 = .ok (.lcmp, 1) := by decide +kernel
theorem dX6_in_3 : decode cX6_in 3 = .ok (.ifCond .lt 14, 3) := by decide +kernel
theorem dX6_in_6 : decode cX6_in 6 = .ok (.lload_n 0, 1) := by decide +kernel
theorem dX6_in_7 : decode cX6_in 7 = .ok (.lload 4, 2) := by decide +kernel
theorem dX6_in_9 : decode cX6_in 9 = .ok (.lcmp, 1) := by decide +kernel
theorem dX6_in_10 : decode cX6_in 10 = .ok (.ifCond .gt 7, 3) := by decide +kernel
theorem dX6_in_13 : decode cX6_in 13 = .ok (.iconst 1, 1) := by decide +kernel
theorem dX6_in_14 : decode cX6_in 14 = .ok (.goto 4, 3) := by decide +kernel
theorem dX6_in_17 : decode cX6_in 17 = .ok (.iconst 0, 1) := by decide +kernel
theorem dX6_in_18 : decode cX6_in 18 = .ok (.ireturn, 1) := by decide +kernel
theorem dX6_copy_0 : decode cX6_copy 0 = .ok (.iconst 0, 1) := by decide +kernel
theorem dX6_copy_1 : decode cX6_copy 1 = .ok (.istore_n 2, 1) := by decide +kernel
theorem dX6_copy_2 : decode cX6_copy 2 = .ok (.iload_n 2, 1) := by decide +kernel
theorem dX6_copy_3 : decode cX6_copy 3 = .ok (.aload_n 0, 1) := by decide +kernel
theorem dX6_copy_4 : decode cX6_copy 4 = .ok (.arraylength, 1) := by decide +kernel
theorem dX6_copy_5 : decode cX6_copy 5 = .ok (.if_icmp .ge 15, 3) := by decide +kernel
theorem dX6_copy_8 : decode cX6_copy 8 = .ok (.aload_n 1, 1) := by decide +kernel
theorem dX6_copy_9 : decode cX6_copy 9 = .ok (.iload_n 2, 1) := by decide +kernel
theorem dX6_copy_10 : decode cX6_copy 10 = .ok (.aload_n 0, 1) := by decide +kernel
theorem dX6_copy_11 : decode cX6_copy 11 = .ok (.iload_n 2, 1) := by decide +kernel
theorem dX6_copy_12 : decode cX6_copy 12 = .ok (.iaload, 1) := by decide +kernel
theorem dX6_copy_13 : decode cX6_copy 13 = .ok (.iastore, 1) := by decide +kernel
theorem dX6_copy_14 : decode cX6_copy 14 = .ok (.iinc 2 1, 3) := by decide +kernel
theorem dX6_copy_17 : decode cX6_copy 17 = .ok (.goto (-15), 3) := by decide +kernel
theorem dX6_copy_20 : decode cX6_copy 20 = .ok (.return_, 1) := by decide +kernel
set_option maxRecDepth 20000 in
theorem ggX6_letter_X6_in : GoodIn wsX6_letter wsX6_in := goodIn_r _ [7] (by decide +kernel) (by decide +kernel)
set_option maxRecDepth 20000 in
theorem gX6_letter_X6_in : GoodIn wsX6_letter (va_wsS RX6 56 yX6_in wsX6_in) := goodIn_app (goodIn_of _ (by decide +kernel)) ggX6_letter_X6_in
theorem dX6_letter_0 : decode cX6_letter 0 = .ok (.iload_n 1, 1) := by decide +kernel
theorem dX6_letter_1 : decode cX6_letter 1 = .ok (.i2l, 1) := by decide +kernel
theorem dX6_letter_2 : decode cX6_letter 2 = .ok (.lconst 1, 1) := by decide +kernel
theorem dX6_letter_3 : decode cX6_letter 3 = .ok (.ldc2_w 54, 3) := by decide +kernel
theorem dX6_letter_6 : decode cX6_letter 6 = .ok (.invokestatic 56, 3) := by decide +kernel
theorem dX6_letter_9 : decode cX6_letter 9 = .ok (.ifCond .ne 6, 3) := by decide +kernel
theorem dX6_letter_12 : decode cX6_letter 12 = .ok (.bipush (-102), 2) := by decide +kernel
theorem dX6_letter_14 : decode cX6_letter 14 = .ok (.ireturn, 1) := by decide +kernel
theorem dX6_letter_15 : decode cX6_letter 15 = .ok (.aload_n 0, 1) := by decide +kernel
theorem dX6_letter_16 : decode cX6_letter 16 = .ok (.getfield 60, 3) := by decide +kernel
theorem dX6_letter_19 : decode cX6_letter 19 = .ok (.bipush 40, 2) := by decide +kernel
theorem dX6_letter_21 : decode cX6_letter 21 = .ok (.if_icmp .ne 6, 3) := by decide +kernel
theorem dX6_letter_24 : decode cX6_letter 24 = .ok (.bipush (-104), 2) := by decide +kernel
theorem dX6_letter_26 : decode cX6_letter 26 = .ok (.ireturn, 1) := by decide +kernel
theorem dX6_letter_27 : decode cX6_letter 27 = .ok (.aload_n 0, 1) := by decide +kernel
