theorem dX6_letter_28 : decode cX6_letter 28 = .ok (.getfield 7, 3) := by decide +kernel
theorem dX6_letter_31 : decode cX6_letter 31 = .ok (.aload_n 0, 1) := by decide +kernel
theorem dX6_letter_32 : decode cX6_letter 32 = .ok (.getfield 60, 3) := by decide +kernel
theorem dX6_letter_35 : decode cX6_letter 35 = .ok (.iload_n 1, 1) := by decide +kernel
theorem dX6_letter_36 : decode cX6_letter 36 = .ok (.iastore, 1) := by decide +kernel
theorem dX6_letter_37 : decode cX6_letter 37 = .ok (.aload_n 0, 1) := by decide +kernel
theorem dX6_letter_38 : decode cX6_letter 38 = .ok (.dup, 1) := by decide +kernel
theorem dX6_letter_39 : decode cX6_letter 39 = .ok (.getfield 60, 3) := by decide +kernel
theorem dX6_letter_42 : decode cX6_letter 42 = .ok (.iconst 1, 1) := by decide +kernel
theorem dX6_letter_43 : decode cX6_letter 43 = .ok (.iadd, 1) := by decide +kernel
theorem dX6_letter_44 : decode cX6_letter 44 = .ok (.putfield 60, 3) := by decide +kernel
theorem dX6_letter_47 : decode cX6_letter 47 = .ok (.aload_n 0, 1) := by decide +kernel
theorem dX6_letter_48 : decode cX6_letter 48 = .ok (.getfield 60, 3) := by decide +kernel
theorem dX6_letter_51 : decode cX6_letter 51 = .ok (.ireturn, 1) := by decide +kernel
theorem dX6_blank_0 : decode cX6_blank 0 = .ok (.aload_n 0, 1) := by decide +kernel
theorem dX6_blank_1 : decode cX6_blank 1 = .ok (.getfield 60, 3) := by decide +kernel
theorem dX6_blank_4 : decode cX6_blank 4 = .ok (.istore_n 1, 1) := by decide +kernel
theorem dX6_blank_5 : decode cX6_blank 5 = .ok (.aload_n 0, 1) := by decide +kernel
theorem dX6_blank_6 : decode cX6_blank 6 = .ok (.iconst 0, 1) := by decide +kernel
theorem dX6_blank_7 : decode cX6_blank 7 = .ok (.putfield 60, 3) := by decide +kernel
theorem dX6_blank_10 : decode cX6_blank 10 = .ok (.iload_n 1, 1) := by decide +kernel
theorem dX6_blank_11 : decode cX6_blank 11 = .ok (.ireturn, 1) := by decide +kernel
theorem dX6_kindBy_0 : decode cX6_kindBy 0 = .ok (.iload_n 0, 1) := by decide +kernel
theorem dX6_kindBy_1 : decode cX6_kindBy 1 = .ok (.tableswitch 81 102 115 #[77, 79, 81, 81, 81, 81, 71, 81, 81, 81, 73, 81, 81, 75], 71) := by decide +kernel
theorem dX6_kindBy_72 : decode cX6_kindBy 72 = .ok (.iconst 0, 1) := by decide +kernel
theorem dX6_kindBy_73 : decode cX6_kindBy 73 = .ok (.ireturn, 1) := by decide +kernel
theorem dX6_kindBy_74 : decode cX6_kindBy 74 = .ok (.iconst 1, 1) := by decide +kernel
theorem dX6_kindBy_75 : decode cX6_kindBy 75 = .ok (.ireturn, 1) := by decide +kernel
theorem dX6_kindBy_76 : decode cX6_kindBy 76 = .ok (.iconst 2, 1) := by decide +kernel
theorem dX6_kindBy_77 : decode cX6_kindBy 77 = .ok (.ireturn, 1) := by decide +kernel
theorem dX6_kindBy_78 : decode cX6_kindBy 78 = .ok (.iconst 3, 1) := by decide +kernel
theorem dX6_kindBy_79 : decode cX6_kindBy 79 = .ok (.ireturn, 1) := by decide +kernel
theorem dX6_kindBy_80 : decode cX6_kindBy 80 = .ok (.iconst 4, 1) := by decide +kernel
theorem dX6_kindBy_81 : decode cX6_kindBy 81 = .ok (.ireturn, 1) := by decide +kernel
theorem dX6_kindBy_82 : decode cX6_kindBy 82 = .ok (.iconst (-1), 1) := by decide +kernel
theorem dX6_kindBy_83 : decode cX6_kindBy 83 = .ok (.ireturn, 1) := by decide +kernel
theorem dX6_cellAt_0 : decode cX6_cellAt 0 = .ok (.bipush 6, 2) := by decide +kernel
theorem dX6_cellAt_2 : decode cX6_cellAt 2 = .ok (.aload_n 0, 1) := by decide +kernel
theorem dX6_cellAt_3 : decode cX6_cellAt 3 = .ok (.getfield 7, 3) := by decide +kernel
theorem dX6_cellAt_6 : decode cX6_cellAt 6 = .ok (.iload_n 1, 1) := by decide +kernel
theorem dX6_cellAt_7 : decode cX6_cellAt 7 = .ok (.iaload, 1) := by decide +kernel
theorem dX6_cellAt_8 : decode cX6_cellAt 8 = .ok (.bipush 48, 2) := by decide +kernel
theorem dX6_cellAt_10 : decode cX6_cellAt 10 = .ok (.isub, 1) := by decide +kernel
theorem dX6_cellAt_11 : decode cX6_cellAt 11 = .ok (.imul, 1) := by decide +kernel
theorem dX6_cellAt_12 : decode cX6_cellAt 12 = .ok (.aload_n 0, 1) := by decide +kernel
theorem dX6_cellAt_13 : decode cX6_cellAt 13 = .ok (.getfield 7, 3) := by decide +kernel
theorem dX6_cellAt_16 : decode cX6_cellAt 16 = .ok (.iload_n 1, 1) := by decide +kernel
theorem dX6_cellAt_17 : decode cX6_cellAt 17 = .ok (.iconst 1, 1) := by decide +kernel
theorem dX6_cellAt_18 : decode cX6_cellAt 18 = .ok (.iadd, 1) := by decide +kernel
theorem dX6_cellAt_19 : decode cX6_cellAt 19 = .ok (.iaload, 1) := by decide +kernel
theorem dX6_cellAt_20 : decode cX6_cellAt 20 = .ok (.iadd, 1) := by decide +kernel
theorem dX6_cellAt_21 : decode cX6_cellAt 21 = .ok (.bipush 48, 2) := by decide +kernel
theorem dX6_cellAt_23 : decode cX6_cellAt 23 = .ok (.isub, 1) := by decide +kernel
theorem dX6_cellAt_24 : decode cX6_cellAt 24 = .ok (.ireturn, 1) := by decide +kernel
set_option maxRecDepth 20000 in
theorem ggX6_isLodgerLetter_X6_kindBy : GoodIn wsX6_isLodgerLetter wsX6_kindBy := goodIn_r _ [7] (by decide +kernel) (by decide +kernel)
set_option maxRecDepth 20000 in
theorem gX6_isLodgerLetter_X6_kindBy : GoodIn wsX6_isLodgerLetter (va_wsS RX6 63 yX6_kindBy wsX6_kindBy) := goodIn_app (goodIn_of _ (by decide +kernel)) ggX6_isLodgerLetter_X6_kindBy
set_option maxRecDepth 20000 in
theorem ggX6_isLodgerLetter_X6_in : GoodIn wsX6_isLodgerLetter wsX6_in := goodIn_r _ [10] (by decide +kernel) (by decide +kernel)
set_option maxRecDepth 20000 in
theorem gX6_isLodgerLetter_X6_in : GoodIn wsX6_isLodgerLetter (va_wsS RX6 56 yX6_in wsX6_in) := goodIn_app (goodIn_of _ (by decide +kernel)) ggX6_isLodgerLetter_X6_in
theorem dX6_isLodgerLetter_0 : decode cX6_isLodgerLetter 0 = .ok (.iload_n 1, 1) := by decide +kernel
theorem dX6_isLodgerLetter_1 : decode cX6_isLodgerLetter 1 = .ok (.iconst 2, 1) := by decide +kernel
theorem dX6_isLodgerLetter_2 : decode cX6_isLodgerLetter 2 = .ok (.irem, 1) := by decide +kernel
theorem dX6_isLodgerLetter_3 : decode cX6_isLodgerLetter 3 = .ok (.ifCond .ne 24, 3) := by decide +kernel
theorem dX6_isLodgerLetter_6 : decode cX6_isLodgerLetter 6 = .ok (.aload_n 0, 1) := by decide +kernel
theorem dX6_isLodgerLetter_7 : decode cX6_isLodgerLetter 7 = .ok (.getfield 7, 3) := by decide +kernel
theorem dX6_isLodgerLetter_10 : decode cX6_isLodgerLetter 10 = .ok (.iload_n 1, 1) := by decide +kernel
theorem dX6_isLodgerLetter_11 : decode cX6_isLodgerLetter 11 = .ok (.iaload, 1) := by decide +kernel
theorem dX6_isLodgerLetter_12 : decode cX6_isLodgerLetter 12 = .ok (.invokestatic 63, 3) := by decide +kernel
theorem dX6_isLodgerLetter_15 : decode cX6_isLodgerLetter 15 = .ok (.iconst (-1), 1) := by decide +kernel
theorem dX6_isLodgerLetter_16 : decode cX6_isLodgerLetter 16 = .ok (.if_icmp .eq 7, 3) := by decide +kernel
theorem dX6_isLodgerLetter_19 : decode cX6_isLodgerLetter 19 = .ok (.iconst 1, 1) := by decide +kernel
theorem dX6_isLodgerLetter_20 : decode cX6_isLodgerLetter 20 = .ok (.goto 23, 3) := by decide +kernel
theorem dX6_isLodgerLetter_23 : decode cX6_isLodgerLetter 23 = .ok (.iconst 0, 1) := by decide +kernel
theorem dX6_isLodgerLetter_24 : decode cX6_isLodgerLetter 24 = .ok (.goto 19, 3) := by decide +kernel
theorem dX6_isLodgerLetter_27 : decode cX6_isLodgerLetter 27 = .ok (.aload_n 0, 1) := by decide +kernel
theorem dX6_isLodgerLetter_28 : decode cX6_isLodgerLetter 28 = .ok (.getfield 7, 3) := by decide +kernel
theorem dX6_isLodgerLetter_31 : decode cX6_isLodgerLetter 31 = .ok (.iload_n 1, 1) := by decide +kernel
theorem dX6_isLodgerLetter_32 : decode cX6_isLodgerLetter 32 = .ok (.iaload, 1) := by decide +kernel
theorem dX6_isLodgerLetter_33 : decode cX6_isLodgerLetter 33 = .ok (.i2l, 1) := by decide +kernel
theorem dX6_isLodgerLetter_34 : decode cX6_isLodgerLetter 34 = .ok (.ldc2_w 67, 3) := by decide +kernel
theorem dX6_isLodgerLetter_37 : decode cX6_isLodgerLetter 37 = .ok (.ldc2_w 69, 3) := by decide +kernel
theorem dX6_isLodgerLetter_40 : decode cX6_isLodgerLetter 40 = .ok (.invokestatic 56, 3) := by decide +kernel
theorem dX6_isLodgerLetter_43 : decode cX6_isLodgerLetter 43 = .ok (.ireturn, 1) := by decide +kernel
set_option maxRecDepth 20000 in
theorem ggX6_isShipLetter_X6_in : GoodIn wsX6_isShipLetter wsX6_in := goodIn_r _ [8] (by decide +kernel) (by decide +kernel)
set_option maxRecDepth 20000 in
theorem gX6_isShipLetter_X6_in : GoodIn wsX6_isShipLetter (va_wsS RX6 56 yX6_in wsX6_in) := goodIn_app (goodIn_of _ (by decide +kernel)) ggX6_isShipLetter_X6_in
theorem dX6_isShipLetter_0 : decode cX6_isShipLetter 0 = .ok (.aload_n 0, 1) := by decide +kernel
theorem dX6_isShipLetter_1 : decode cX6_isShipLetter 1 = .ok (.getfield 7, 3) := by decide +kernel
theorem dX6_isShipLetter_4 : decode cX6_isShipLetter 4 = .ok (.iload_n 1, 1) := by decide +kernel
theorem dX6_isShipLetter_5 : decode cX6_isShipLetter 5 = .ok (.iaload, 1) := by decide +kernel
theorem dX6_isShipLetter_6 : decode cX6_isShipLetter 6 = .ok (.istore_n 2, 1) := by decide +kernel
theorem dX6_isShipLetter_7 : decode cX6_isShipLetter 7 = .ok (.iload_n 1, 1) := by decide +kernel
theorem dX6_isShipLetter_8 : decode cX6_isShipLetter 8 = .ok (.bipush 9, 2) := by decide +kernel
theorem dX6_isShipLetter_10 : decode cX6_isShipLetter 10 = .ok (.isub, 1) := by decide +kernel
theorem dX6_isShipLetter_11 : decode cX6_isShipLetter 11 = .ok (.istore_n 3, 1) := by decide +kernel
theorem dX6_isShipLetter_12 : decode cX6_isShipLetter 12 = .ok (.iload_n 3, 1) := by decide +kernel
theorem dX6_isShipLetter_13 : decode cX6_isShipLetter 13 = .ok (.iconst 3, 1) := by decide +kernel
theorem dX6_isShipLetter_14 : decode cX6_isShipLetter 14 = .ok (.irem, 1) := by decide +kernel
theorem dX6_isShipLetter_15 : decode cX6_isShipLetter 15 = .ok (.iconst 2, 1) := by decide +kernel
theorem dX6_isShipLetter_16 : decode cX6_isShipLetter 16 = .ok (.if_icmp .ge 15, 3) := by decide +kernel
theorem dX6_isShipLetter_19 : decode cX6_isShipLetter 19 = .ok (.iload_n 2, 1) := by decide +kernel
theorem dX6_isShipLetter_20 : decode cX6_isShipLetter 20 = .ok (.i2l, 1) := by decide +kernel
theorem dX6_isShipLetter_21 : decode cX6_isShipLetter 21 = .ok (.ldc2_w 67, 3) := by decide +kernel
theorem dX6_isShipLetter_24 : decode cX6_isShipLetter 24 = .ok (.ldc2_w 71, 3) := by decide +kernel
theorem dX6_isShipLetter_27 : decode cX6_isShipLetter 27 = .ok (.invokestatic 56, 3) := by decide +kernel
theorem dX6_isShipLetter_30 : decode cX6_isShipLetter 30 = .ok (.ireturn, 1) := by decide +kernel
theorem dX6_isShipLetter_31 : decode cX6_isShipLetter 31 = .ok (.aload_n 0, 1) := by decide +kernel
theorem dX6_isShipLetter_32 : decode cX6_isShipLetter 32 = .ok (.iload_n 2, 1) := by decide +kernel
theorem dX6_isShipLetter_33 : decode cX6_isShipLetter 33 = .ok (.bipush 59, 2) := by decide +kernel
theorem dX6_isShipLetter_35 : decode cX6_isShipLetter 35 = .ok (.if_icmp .ne 7, 3) := by decide +kernel
theorem dX6_isShipLetter_38 : decode cX6_isShipLetter 38 = .ok (.iload_n 1, 1) := by decide +kernel
theorem dX6_isShipLetter_39 : decode cX6_isShipLetter 39 = .ok (.goto 4, 3) := by decide +kernel
theorem dX6_isShipLetter_42 : decode cX6_isShipLetter 42 = .ok (.iconst 0, 1) := by decide +kernel
theorem dX6_isShipLetter_43 : decode cX6_isShipLetter 43 = .ok (.putfield 73, 3) := by decide +kernel
theorem dX6_isShipLetter_46 : decode cX6_isShipLetter 46 = .ok (.iload_n 2, 1) := by decide +kernel
theorem dX6_isShipLetter_47 : decode cX6_isShipLetter 47 = .ok (.bipush 59, 2) := by decide +kernel
theorem dX6_isShipLetter_49 : decode cX6_isShipLetter 49 = .ok (.if_icmp .eq 15, 3) := by decide +kernel
theorem dX6_isShipLetter_52 : decode cX6_isShipLetter 52 = .ok (.iload_n 2, 1) := by decide +kernel
theorem dX6_isShipLetter_53 : decode cX6_isShipLetter 53 = .ok (.bipush 44, 2) := by decide +kernel
theorem dX6_isShipLetter_55 : decode cX6_isShipLetter 55 = .ok (.if_icmp .ne 13, 3) := by decide +kernel
theorem dX6_isShipLetter_58 : decode cX6_isShipLetter 58 = .ok (.iload_n 3, 1) := by decide +kernel
theorem dX6_isShipLetter_59 : decode cX6_isShipLetter 59 = .ok (.bipush 8, 2) := by decide +kernel
theorem dX6_isShipLetter_61 : decode cX6_isShipLetter 61 = .ok (.if_icmp .ge 7, 3) := by decide +kernel
theorem dX6_isShipLetter_64 : decode cX6_isShipLetter 64 = .ok (.iconst 1, 1) := by decide +kernel
theorem dX6_isShipLetter_65 : decode cX6_isShipLetter 65 = .ok (.goto 4, 3) := by decide +kernel
theorem dX6_isShipLetter_68 : decode cX6_isShipLetter 68 = .ok (.iconst 0, 1) := by decide +kernel
theorem dX6_isShipLetter_69 : decode cX6_isShipLetter 69 = .ok (.ireturn, 1) := by decide +kernel
set_option maxRecDepth 20000 in
theorem ggX6_isFree_X6_cellAt : GoodIn wsX6_isFree wsX6_cellAt := goodIn_r _ [6, 7, 8, 9, 10, 11, 12, 13, 14, 15, 16, 17, 18, 19, 20, 21, 22, 23, 24, 25, 26, 27, 28, 29, 30, 31, 32, 33, 34, 35, 36, 37] (by decide +kernel) (by decide +kernel)
set_option maxRecDepth 20000 in
theorem gX6_isFree_X6_cellAt : GoodIn wsX6_isFree (wsV RX6 76 RX6 yX6_cellAt wsX6_cellAt) := goodIn_app (goodIn_of _ (by decide +kernel)) ggX6_isFree_X6_cellAt
theorem dX6_isFree_0 : decode cX6_isFree 0 = .ok (.iconst 1, 1) := by decide +kernel
theorem dX6_isFree_1 : decode cX6_isFree 1 = .ok (.istore_n 2, 1) := by decide +kernel
theorem dX6_isFree_2 : decode cX6_isFree 2 = .ok (.bipush 9, 2) := by decide +kernel
theorem dX6_isFree_4 : decode cX6_isFree 4 = .ok (.istore_n 3, 1) := by decide +kernel
theorem dX6_isFree_5 : decode cX6_isFree 5 = .ok (.iload_n 3, 1) := by decide +kernel
theorem dX6_isFree_6 : decode cX6_isFree 6 = .ok (.aload_n 0, 1) := by decide +kernel
theorem dX6_isFree_7 : decode cX6_isFree 7 = .ok (.getfield 73, 3) := by decide +kernel
theorem dX6_isFree_10 : decode cX6_isFree 10 = .ok (.if_icmp .ge 34, 3) := by decide +kernel
theorem dX6_isFree_13 : decode cX6_isFree 13 = .ok (.iload_n 2, 1) := by decide +kernel
theorem dX6_isFree_14 : decode cX6_isFree 14 = .ok (.ifCond .eq 22, 3) := by decide +kernel
theorem dX6_isFree_17 : decode cX6_isFree 17 = .ok (.aload_n 0, 1) := by decide +kernel
theorem dX6_isFree_18 : decode cX6_isFree 18 = .ok (.iload_n 3, 1) := by decide +kernel
theorem dX6_isFree_19 : decode cX6_isFree 19 = .ok (.invokevirtual 76, 3) := by decide +kernel
theorem dX6_isFree_22 : decode cX6_isFree 22 = .ok (.aload_n 0, 1) := by decide +kernel
theorem dX6_isFree_23 : decode cX6_isFree 23 = .ok (.iload_n 1, 1) := by decide +kernel
theorem dX6_isFree_24 : decode cX6_isFree 24 = .ok (.iconst 1, 1) := by decide +kernel
theorem dX6_isFree_25 : decode cX6_isFree 25 = .ok (.isub, 1) := by decide +kernel
theorem dX6_isFree_26 : decode cX6_isFree 26 = .ok (.invokevirtual 76, 3) := by decide +kernel
theorem dX6_isFree_29 : decode cX6_isFree 29 = .ok (.if_icmp .eq 7, 3) := by decide +kernel
theorem dX6_isFree_32 : decode cX6_isFree 32 = .ok (.iconst 1, 1) := by decide +kernel
theorem dX6_isFree_33 : decode cX6_isFree 33 = .ok (.goto 4, 3) := by decide +kernel
theorem dX6_isFree_36 : decode cX6_isFree 36 = .ok (.iconst 0, 1) := by decide +kernel
theorem dX6_isFree_37 : decode cX6_isFree 37 = .ok (.istore_n 2, 1) := by decide +kernel
theorem dX6_isFree_38 : decode cX6_isFree 38 = .ok (.iinc 3 3, 3) := by decide +kernel
theorem dX6_isFree_41 : decode cX6_isFree 41 = .ok (.goto (-36), 3) := by decide +kernel
theorem dX6_isFree_44 : decode cX6_isFree 44 = .ok (.aload_n 0, 1) := by decide +kernel
theorem dX6_isFree_45 : decode cX6_isFree 45 = .ok (.getfield 73, 3) := by decide +kernel
theorem dX6_isFree_48 : decode cX6_isFree 48 = .ok (.iconst 1, 1) := by decide +kernel
theorem dX6_isFree_49 : decode cX6_isFree 49 = .ok (.iadd, 1) := by decide +kernel
theorem dX6_isFree_50 : decode cX6_isFree 50 = .ok (.istore_n 3, 1) := by decide +kernel
theorem dX6_isFree_51 : decode cX6_isFree 51 = .ok (.iload_n 3, 1) := by decide +kernel
theorem dX6_isFree_52 : decode cX6_isFree 52 = .ok (.iload_n 1, 1) := by decide +kernel
theorem dX6_isFree_53 : decode cX6_isFree 53 = .ok (.iconst 1, 1) := by decide +kernel
theorem dX6_isFree_54 : decode cX6_isFree 54 = .ok (.isub, 1) := by decide +kernel
theorem dX6_isFree_55 : decode cX6_isFree 55 = .ok (.if_icmp .ge 34, 3) := by decide +kernel
theorem dX6_isFree_58 : decode cX6_isFree 58 = .ok (.iload_n 2, 1) := by decide +kernel
theorem dX6_isFree_59 : decode cX6_isFree 59 = .ok (.ifCond .eq 22, 3) := by decide +kernel
theorem dX6_isFree_62 : decode cX6_isFree 62 = .ok (.aload_n 0, 1) := by decide +kernel
theorem dX6_isFree_63 : decode cX6_isFree 63 = .ok (.iload_n 3, 1) := by decide +kernel
theorem dX6_isFree_64 : decode cX6_isFree 64 = .ok (.invokevirtual 76, 3) := by decide +kernel
theorem dX6_isFree_67 : decode cX6_isFree 67 = .ok (.aload_n 0, 1) := by decide +kernel
theorem dX6_isFree_68 : decode cX6_isFree 68 = .ok (.iload_n 1, 1) := by decide +kernel
theorem dX6_isFree_69 : decode cX6_isFree 69 = .ok (.iconst 1, 1) := by decide +kernel
theorem dX6_isFree_70 : decode cX6_isFree 70 = .ok (.isub, 1) := by decide +kernel
theorem dX6_isFree_71 : decode cX6_isFree 71 = .ok (.invokevirtual 76, 3) := by decide +kernel
theorem dX6_isFree_74 : decode cX6_isFree 74 = .ok (.if_icmp .eq 7, 3) := by decide +kernel
theorem dX6_isFree_77 : decode cX6_isFree 77 = .ok (.iconst 1, 1) := by decide +kernel
theorem dX6_isFree_78 : decode cX6_isFree 78 = .ok (.goto 4, 3) := by decide +kernel
theorem dX6_isFree_81 : decode cX6_isFree 81 = .ok (.iconst 0, 1) := by decide +kernel
theorem dX6_isFree_82 : decode cX6_isFree 82 = .ok (.istore_n 2, 1) := by decide +kernel
theorem dX6_isFree_83 : decode cX6_isFree 83 = .ok (.iinc 3 3, 3) := by decide +kernel
theorem dX6_isFree_86 : decode cX6_isFree 86 = .ok (.goto (-35), 3) := by decide +kernel
theorem dX6_isFree_89 : decode cX6_isFree 89 = .ok (.iload_n 2, 1) := by decide +kernel
theorem dX6_isFree_90 : decode cX6_isFree 90 = .ok (.ireturn, 1) := by decide +kernel
set_option maxRecDepth 20000 in
theorem ggX6_isRockLetter_X6_in : GoodIn wsX6_isRockLetter wsX6_in := goodIn_r _ [8] (by decide +kernel) (by decide +kernel)
set_option maxRecDepth 20000 in
theorem gX6_isRockLetter_X6_in : GoodIn wsX6_isRockLetter (va_wsS RX6 56 yX6_in wsX6_in) := goodIn_app (goodIn_of _ (by decide +kernel)) ggX6_isRockLetter_X6_in
set_option maxRecDepth 20000 in
theorem ggX6_isRockLetter_X6_isFree : GoodIn wsX6_isRockLetter wsX6_isFree := goodIn_r _ [12, 2, 13, 14, 15, 7, 16, 1, 17, 18, 19, 20, 21, 22, 23, 24, 25, 26, 27, 28, 29, 30, 31, 32, 33, 34, 35, 36, 37, 38, 39, 40, 41, 42, 43, 44, 45, 46] (by decide +kernel) (by decide +kernel)
set_option maxRecDepth 20000 in
theorem gX6_isRockLetter_X6_isFree : GoodIn wsX6_isRockLetter (wsV RX6 79 RX6 yX6_isFree wsX6_isFree) := goodIn_app (goodIn_of _ (by decide +kernel)) ggX6_isRockLetter_X6_isFree
theorem dX6_isRockLetter_0 : decode cX6_isRockLetter 0 = .ok (.aload_n 0, 1) := by decide +kernel
theorem dX6_isRockLetter_1 : decode cX6_isRockLetter 1 = .ok (.getfield 7, 3) := by decide +kernel
theorem dX6_isRockLetter_4 : decode cX6_isRockLetter 4 = .ok (.iload_n 1, 1) := by decide +kernel
theorem dX6_isRockLetter_5 : decode cX6_isRockLetter 5 = .ok (.iaload, 1) := by decide +kernel
theorem dX6_isRockLetter_6 : decode cX6_isRockLetter 6 = .ok (.istore_n 2, 1) := by decide +kernel
theorem dX6_isRockLetter_7 : decode cX6_isRockLetter 7 = .ok (.iload_n 1, 1) := by decide +kernel
theorem dX6_isRockLetter_8 : decode cX6_isRockLetter 8 = .ok (.aload_n 0, 1) := by decide +kernel
theorem dX6_isRockLetter_9 : decode cX6_isRockLetter 9 = .ok (.getfield 73, 3) := by decide +kernel
theorem dX6_isRockLetter_12 : decode cX6_isRockLetter 12 = .ok (.isub, 1) := by decide +kernel
theorem dX6_isRockLetter_13 : decode cX6_isRockLetter 13 = .ok (.iconst 1, 1) := by decide +kernel
theorem dX6_isRockLetter_14 : decode cX6_isRockLetter 14 = .ok (.isub, 1) := by decide +kernel
theorem dX6_isRockLetter_15 : decode cX6_isRockLetter 15 = .ok (.istore_n 3, 1) := by decide +kernel
theorem dX6_isRockLetter_16 : decode cX6_isRockLetter 16 = .ok (.iload_n 3, 1) := by decide +kernel
theorem dX6_isRockLetter_17 : decode cX6_isRockLetter 17 = .ok (.iconst 3, 1) := by decide +kernel
theorem dX6_isRockLetter_18 : decode cX6_isRockLetter 18 = .ok (.irem, 1) := by decide +kernel
theorem dX6_isRockLetter_19 : decode cX6_isRockLetter 19 = .ok (.lookupswitch 65 #[(0, 25), (1, 37)], 25) := by decide +kernel
theorem dX6_isRockLetter_44 : decode cX6_isRockLetter 44 = .ok (.iload_n 2, 1) := by decide +kernel
theorem dX6_isRockLetter_45 : decode cX6_isRockLetter 45 = .ok (.i2l, 1) := by decide +kernel
theorem dX6_isRockLetter_46 : decode cX6_isRockLetter 46 = .ok (.ldc2_w 67, 3) := by decide +kernel
theorem dX6_isRockLetter_49 : decode cX6_isRockLetter 49 = .ok (.ldc2_w 71, 3) := by decide +kernel
theorem dX6_isRockLetter_52 : decode cX6_isRockLetter 52 = .ok (.invokestatic 56, 3) := by decide +kernel
theorem dX6_isRockLetter_55 : decode cX6_isRockLetter 55 = .ok (.ireturn, 1) := by decide +kernel
theorem dX6_isRockLetter_56 : decode cX6_isRockLetter 56 = .ok (.iload_n 2, 1) := by decide +kernel
theorem dX6_isRockLetter_57 : decode cX6_isRockLetter 57 = .ok (.i2l, 1) := by decide +kernel
theorem dX6_isRockLetter_58 : decode cX6_isRockLetter 58 = .ok (.ldc2_w 67, 3) := by decide +kernel
theorem dX6_isRockLetter_61 : decode cX6_isRockLetter 61 = .ok (.ldc2_w 71, 3) := by decide +kernel
theorem dX6_isRockLetter_64 : decode cX6_isRockLetter 64 = .ok (.invokestatic 56, 3) := by decide +kernel
theorem dX6_isRockLetter_67 : decode cX6_isRockLetter 67 = .ok (.ifCond .eq 15, 3) := by decide +kernel
theorem dX6_isRockLetter_70 : decode cX6_isRockLetter 70 = .ok (.aload_n 0, 1) := by decide +kernel
theorem dX6_isRockLetter_71 : decode cX6_isRockLetter 71 = .ok (.iload_n 1, 1) := by decide +kernel
theorem dX6_isRockLetter_72 : decode cX6_isRockLetter 72 = .ok (.invokevirtual 79, 3) := by decide +kernel
theorem dX6_isRockLetter_75 : decode cX6_isRockLetter 75 = .ok (.ifCond .eq 7, 3) := by decide +kernel
theorem dX6_isRockLetter_78 : decode cX6_isRockLetter 78 = .ok (.iconst 1, 1) := by decide +kernel
theorem dX6_isRockLetter_79 : decode cX6_isRockLetter 79 = .ok (.goto 4, 3) := by decide +kernel
theorem dX6_isRockLetter_82 : decode cX6_isRockLetter 82 = .ok (.iconst 0, 1) := by decide +kernel
theorem dX6_isRockLetter_83 : decode cX6_isRockLetter 83 = .ok (.ireturn, 1) := by decide +kernel
theorem dX6_isRockLetter_84 : decode cX6_isRockLetter 84 = .ok (.iload_n 2, 1) := by decide +kernel
theorem dX6_isRockLetter_85 : decode cX6_isRockLetter 85 = .ok (.bipush 44, 2) := by decide +kernel
theorem dX6_isRockLetter_87 : decode cX6_isRockLetter 87 = .ok (.if_icmp .ne 13, 3) := by decide +kernel
theorem dX6_isRockLetter_90 : decode cX6_isRockLetter 90 = .ok (.iload_n 3, 1) := by decide +kernel
theorem dX6_isRockLetter_91 : decode cX6_isRockLetter 91 = .ok (.bipush 17, 2) := by decide +kernel
theorem dX6_isRockLetter_93 : decode cX6_isRockLetter 93 = .ok (.if_icmp .ge 7, 3) := by decide +kernel
theorem dX6_isRockLetter_96 : decode cX6_isRockLetter 96 = .ok (.iconst 1, 1) := by decide +kernel
theorem dX6_isRockLetter_97 : decode cX6_isRockLetter 97 = .ok (.goto 4, 3) := by decide +kernel
theorem dX6_isRockLetter_100 : decode cX6_isRockLetter 100 = .ok (.iconst 0, 1) := by decide +kernel
theorem dX6_isRockLetter_101 : decode cX6_isRockLetter 101 = .ok (.ireturn, 1) := by decide +kernel
set_option maxRecDepth 20000 in
theorem ggX6_isGood_X6_isLodgerLetter : GoodIn wsX6_isGood wsX6_isLodgerLetter := goodIn_r _ [7, 1, 8, 9, 10, 11, 6, 12, 13, 14, 15, 33, 34, 35, 36, 37, 38, 39, 40, 41, 42, 43, 44, 45, 46, 47, 48, 49, 50, 51, 52, 53, 54, 55, 56, 57, 58, 59, 60, 61, 62] (by decide +kernel) (by decide +kernel)
set_option maxRecDepth 20000 in
theorem gX6_isGood_X6_isLodgerLetter : GoodIn wsX6_isGood (wsV RX6 83 RX6 yX6_isLodgerLetter wsX6_isLodgerLetter) := goodIn_app (goodIn_of _ (by decide +kernel)) ggX6_isGood_X6_isLodgerLetter
set_option maxRecDepth 20000 in
theorem ggX6_isGood_X6_isShipLetter : GoodIn wsX6_isGood wsX6_isShipLetter := goodIn_r _ [19, 1, 8, 20, 2, 13, 14, 6, 15, 33, 34, 35, 36, 37, 38, 39, 40, 41, 42, 43, 44, 45, 46, 47, 48, 49, 50, 51, 52, 53, 54, 55, 56, 57, 58, 59, 60, 61, 62] (by decide +kernel) (by decide +kernel)
set_option maxRecDepth 20000 in
theorem gX6_isGood_X6_isShipLetter : GoodIn wsX6_isGood (wsV RX6 86 RX6 yX6_isShipLetter wsX6_isShipLetter) := goodIn_app (goodIn_of _ (by decide +kernel)) ggX6_isGood_X6_isShipLetter
set_option maxRecDepth 20000 in
theorem ggX6_isGood_X6_isRockLetter : GoodIn wsX6_isGood wsX6_isRockLetter := goodIn_r _ [24, 1, 2, 8, 20, 13, 14, 6, 15, 25, 26, 27, 28, 29, 30, 31, 32, 33, 34, 35, 36, 37, 38, 39, 40, 41, 42, 43, 44, 45, 46, 47, 48, 49, 50, 51, 52, 53, 54, 55, 56, 57, 58, 59, 60, 61, 62] (by decide +kernel) (by decide +kernel)
set_option maxRecDepth 20000 in
theorem gX6_isGood_X6_isRockLetter : GoodIn wsX6_isGood (wsV RX6 89 RX6 yX6_isRockLetter wsX6_isRockLetter) := goodIn_app (goodIn_of _ (by decide +kernel)) ggX6_isGood_X6_isRockLetter
theorem dX6_isGood_0 : decode cX6_isGood 0 = .ok (.iload_n 1, 1) := by decide +kernel
theorem dX6_isGood_1 : decode cX6_isGood 1 = .ok (.bipush 9, 2) := by decide +kernel
theorem dX6_isGood_3 : decode cX6_isGood 3 = .ok (.if_icmp .ge 34, 3) := by decide +kernel
theorem dX6_isGood_6 : decode cX6_isGood 6 = .ok (.iload_n 1, 1) := by decide +kernel
theorem dX6_isGood_7 : decode cX6_isGood 7 = .ok (.bipush 8, 2) := by decide +kernel
theorem dX6_isGood_9 : decode cX6_isGood 9 = .ok (.if_icmp .ge 11, 3) := by decide +kernel
theorem dX6_isGood_12 : decode cX6_isGood 12 = .ok (.aload_n 0, 1) := by decide +kernel
theorem dX6_isGood_13 : decode cX6_isGood 13 = .ok (.iload_n 1, 1) := by decide +kernel
theorem dX6_isGood_14 : decode cX6_isGood 14 = .ok (.invokevirtual 83, 3) := by decide +kernel
theorem dX6_isGood_17 : decode cX6_isGood 17 = .ok (.goto 19, 3) := by decide +kernel
theorem dX6_isGood_20 : decode cX6_isGood 20 = .ok (.aload_n 0, 1) := by decide +kernel
theorem dX6_isGood_21 : decode cX6_isGood 21 = .ok (.getfield 7, 3) := by decide +kernel
theorem dX6_isGood_24 : decode cX6_isGood 24 = .ok (.iload_n 1, 1) := by decide +kernel
theorem dX6_isGood_25 : decode cX6_isGood 25 = .ok (.iaload, 1) := by decide +kernel
theorem dX6_isGood_26 : decode cX6_isGood 26 = .ok (.bipush 59, 2) := by decide +kernel
theorem dX6_isGood_28 : decode cX6_isGood 28 = .ok (.if_icmp .ne 7, 3) := by decide +kernel
theorem dX6_isGood_31 : decode cX6_isGood 31 = .ok (.iconst 1, 1) := by decide +kernel
theorem dX6_isGood_32 : decode cX6_isGood 32 = .ok (.goto 4, 3) := by decide +kernel
theorem dX6_isGood_35 : decode cX6_isGood 35 = .ok (.iconst 0, 1) := by decide +kernel
theorem dX6_isGood_36 : decode cX6_isGood 36 = .ok (.ireturn, 1) := by decide +kernel
theorem dX6_isGood_37 : decode cX6_isGood 37 = .ok (.aload_n 0, 1) := by decide +kernel
theorem dX6_isGood_38 : decode cX6_isGood 38 = .ok (.getfield 73, 3) := by decide +kernel
theorem dX6_isGood_41 : decode cX6_isGood 41 = .ok (.ifCond .ne 11, 3) := by decide +kernel
theorem dX6_isGood_44 : decode cX6_isGood 44 = .ok (.aload_n 0, 1) := by decide +kernel
theorem dX6_isGood_45 : decode cX6_isGood 45 = .ok (.iload_n 1, 1) := by decide +kernel
theorem dX6_isGood_46 : decode cX6_isGood 46 = .ok (.invokevirtual 86, 3) := by decide +kernel
theorem dX6_isGood_49 : decode cX6_isGood 49 = .ok (.goto 8, 3) := by decide +kernel
theorem dX6_isGood_52 : decode cX6_isGood 52 = .ok (.aload_n 0, 1) := by decide +kernel
theorem dX6_isGood_53 : decode cX6_isGood 53 = .ok (.iload_n 1, 1) := by decide +kernel
theorem dX6_isGood_54 : decode cX6_isGood 54 = .ok (.invokevirtual 89, 3) := by decide +kernel
theorem dX6_isGood_57 : decode cX6_isGood 57 = .ok (.ireturn, 1) := by decide +kernel
set_option maxRecDepth 20000 in
theorem ggX6_faultOf_X6_isGood : GoodIn wsX6_faultOf wsX6_isGood := goodIn_r _ [7, 8, 1, 9, 10, 11, 6, 12, 13, 14, 15, 16, 17, 18, 19, 20, 21, 22, 23, 24, 25, 26, 27, 28, 29, 30, 31, 32, 33, 34, 35, 36, 37, 38, 39, 40, 41, 42, 43, 44, 45, 46, 47, 48, 49, 50, 51, 52, 53, 54, 55, 56, 57, 58, 59, 60, 61, 62, 63, 64, 65, 66, 67] (by decide +kernel) (by decide +kernel)
set_option maxRecDepth 20000 in
theorem gX6_faultOf_X6_isGood : GoodIn wsX6_faultOf (wsV RX6 92 RX6 yX6_isGood wsX6_isGood) := goodIn_app (goodIn_of _ (by decide +kernel)) ggX6_faultOf_X6_isGood
theorem dX6_faultOf_0 : decode cX6_faultOf 0 = .ok (.aload_n 0, 1) := by decide +kernel
theorem dX6_faultOf_1 : decode cX6_faultOf 1 = .ok (.iconst 0, 1) := by decide +kernel
theorem dX6_faultOf_2 : decode cX6_faultOf 2 = .ok (.putfield 73, 3) := by decide +kernel
theorem dX6_faultOf_5 : decode cX6_faultOf 5 = .ok (.iconst 0, 1) := by decide +kernel
theorem dX6_faultOf_6 : decode cX6_faultOf 6 = .ok (.istore_n 1, 1) := by decide +kernel
theorem dX6_faultOf_7 : decode cX6_faultOf 7 = .ok (.iload_n 1, 1) := by decide +kernel
theorem dX6_faultOf_8 : decode cX6_faultOf 8 = .ok (.aload_n 0, 1) := by decide +kernel
theorem dX6_faultOf_9 : decode cX6_faultOf 9 = .ok (.getfield 60, 3) := by decide +kernel
theorem dX6_faultOf_12 : decode cX6_faultOf 12 = .ok (.if_icmp .ge 17, 3) := by decide +kernel
theorem dX6_faultOf_15 : decode cX6_faultOf 15 = .ok (.aload_n 0, 1) := by decide +kernel
theorem dX6_faultOf_16 : decode cX6_faultOf 16 = .ok (.iload_n 1, 1) := by decide +kernel
theorem dX6_faultOf_17 : decode cX6_faultOf 17 = .ok (.invokevirtual 92, 3) := by decide +kernel
theorem dX6_faultOf_20 : decode cX6_faultOf 20 = .ok (.ifCond .eq 9, 3) := by decide +kernel
theorem dX6_faultOf_23 : decode cX6_faultOf 23 = .ok (.iinc 1 1, 3) := by decide +kernel
theorem dX6_faultOf_26 : decode cX6_faultOf 26 = .ok (.goto (-19), 3) := by decide +kernel
theorem dX6_faultOf_29 : decode cX6_faultOf 29 = .ok (.iload_n 1, 1) := by decide +kernel
theorem dX6_faultOf_30 : decode cX6_faultOf 30 = .ok (.ireturn, 1) := by decide +kernel
set_option maxRecDepth 20000 in
theorem ggX6_fault_X6_faultOf : GoodIn wsX6_fault wsX6_faultOf := goodIn_r _ [5, 6, 7, 8, 9, 10, 4, 11, 12, 13, 14, 15, 16, 17, 18, 19, 20, 21, 22, 23, 24, 25, 26, 27, 28, 29, 30, 31, 32, 33, 34, 35, 36, 37, 38, 39, 40, 41, 42, 43, 44, 45, 46, 47, 48, 49, 50, 51, 52, 53, 54, 55, 56, 57, 58, 59, 60, 61, 62, 63, 64, 65, 66, 67, 68, 69, 70, 71] (by decide +kernel) (by decide +kernel)
set_option maxRecDepth 20000 in
theorem gX6_fault_X6_faultOf : GoodIn wsX6_fault (wsV RX6 95 RX6 yX6_faultOf wsX6_faultOf) := goodIn_app (goodIn_of _ (by decide +kernel)) ggX6_fault_X6_faultOf
theorem dX6_fault_0 : decode cX6_fault 0 = .ok (.aload_n 0, 1) := by decide +kernel
theorem dX6_fault_1 : decode cX6_fault 1 = .ok (.invokevirtual 95, 3) := by decide +kernel
theorem dX6_fault_4 : decode cX6_fault 4 = .ok (.ireturn, 1) := by decide +kernel
set_option maxRecDepth 20000 in
theorem ggX6_sea_X6_faultOf : GoodIn wsX6_sea wsX6_faultOf := goodIn_r _ [20, 2, 1, 21, 22, 23, 19, 24, 6, 25, 26, 27, 28, 29, 30, 31, 32, 33, 34, 35, 36, 37, 38, 39, 40, 41, 42, 43, 44, 45, 46, 47, 48, 49, 50, 51, 52, 53, 54, 55, 56, 57, 58, 59, 60, 61, 62, 63, 64, 65, 66, 67, 68, 69, 70, 71, 72, 73, 74, 75, 76, 77, 78, 79, 80, 81, 82, 83] (by decide +kernel) (by decide +kernel)
set_option maxRecDepth 20000 in
theorem gX6_sea_X6_faultOf : GoodIn wsX6_sea (wsV RX6 95 RX6 yX6_faultOf wsX6_faultOf) := goodIn_app (goodIn_of _ (by decide +kernel)) ggX6_sea_X6_faultOf
set_option maxRecDepth 20000 in
theorem ggX6_sea_X6_kindBy : GoodIn wsX6_sea wsX6_kindBy := goodIn_r _ [33] (by decide +kernel) (by decide +kernel)
set_option maxRecDepth 20000 in
theorem gX6_sea_X6_kindBy : GoodIn wsX6_sea (va_wsS RX6 63 yX6_kindBy wsX6_kindBy) := goodIn_app (goodIn_of _ (by decide +kernel)) ggX6_sea_X6_kindBy
set_option maxRecDepth 20000 in
theorem ggX6_sea_X6_cellAt : GoodIn wsX6_sea wsX6_cellAt := goodIn_r _ [53, 6, 54, 55, 56, 57, 58, 59, 60, 61, 62, 63, 64, 65, 66, 67, 68, 69, 70, 71, 72, 73, 74, 75, 76, 77, 78, 79, 80, 81, 82, 83] (by decide +kernel) (by decide +kernel)
set_option maxRecDepth 20000 in
theorem gX6_sea_X6_cellAt : GoodIn wsX6_sea (wsV RX6 76 RX6 yX6_cellAt wsX6_cellAt) := goodIn_app (goodIn_of _ (by decide +kernel)) ggX6_sea_X6_cellAt
theorem dX6_sea_0 : decode cX6_sea 0 = .ok (.aload_n 0, 1) := by decide +kernel
theorem dX6_sea_1 : decode cX6_sea 1 = .ok (.invokevirtual 95, 3) := by decide +kernel
theorem dX6_sea_4 : decode cX6_sea 4 = .ok (.aload_n 0, 1) := by decide +kernel
theorem dX6_sea_5 : decode cX6_sea 5 = .ok (.getfield 60, 3) := by decide +kernel
theorem dX6_sea_8 : decode cX6_sea 8 = .ok (.if_icmp .lt 24, 3) := by decide +kernel
theorem dX6_sea_11 : decode cX6_sea 11 = .ok (.aload_n 0, 1) := by decide +kernel
theorem dX6_sea_12 : decode cX6_sea 12 = .ok (.getfield 73, 3) := by decide +kernel
theorem dX6_sea_15 : decode cX6_sea 15 = .ok (.ifCond .eq 17, 3) := by decide +kernel
theorem dX6_sea_18 : decode cX6_sea 18 = .ok (.aload_n 0, 1) := by decide +kernel
theorem dX6_sea_19 : decode cX6_sea 19 = .ok (.getfield 60, 3) := by decide +kernel
theorem dX6_sea_22 : decode cX6_sea 22 = .ok (.aload_n 0, 1) := by decide +kernel
theorem dX6_sea_23 : decode cX6_sea 23 = .ok (.getfield 73, 3) := by decide +kernel
theorem dX6_sea_26 : decode cX6_sea 26 = .ok (.isub, 1) := by decide +kernel
theorem dX6_sea_27 : decode cX6_sea 27 = .ok (.iconst 3, 1) := by decide +kernel
theorem dX6_sea_28 : decode cX6_sea 28 = .ok (.irem, 1) := by decide +kernel
theorem dX6_sea_29 : decode cX6_sea 29 = .ok (.ifCond .eq 6, 3) := by decide +kernel
theorem dX6_sea_32 : decode cX6_sea 32 = .ok (.bipush (-103), 2) := by decide +kernel
theorem dX6_sea_34 : decode cX6_sea 34 = .ok (.ireturn, 1) := by decide +kernel
theorem dX6_sea_35 : decode cX6_sea 35 = .ok (.aload_n 0, 1) := by decide +kernel
theorem dX6_sea_36 : decode cX6_sea 36 = .ok (.aload_n 0, 1) := by decide +kernel
theorem dX6_sea_37 : decode cX6_sea 37 = .ok (.getfield 73, 3) := by decide +kernel
theorem dX6_sea_40 : decode cX6_sea 40 = .ok (.bipush 8, 2) := by decide +kernel
theorem dX6_sea_42 : decode cX6_sea 42 = .ok (.isub, 1) := by decide +kernel
theorem dX6_sea_43 : decode cX6_sea 43 = .ok (.iconst 3, 1) := by decide +kernel
theorem dX6_sea_44 : decode cX6_sea 44 = .ok (.idiv, 1) := by decide +kernel
theorem dX6_sea_45 : decode cX6_sea 45 = .ok (.putfield 99, 3) := by decide +kernel
theorem dX6_sea_48 : decode cX6_sea 48 = .ok (.aload_n 0, 1) := by decide +kernel
theorem dX6_sea_49 : decode cX6_sea 49 = .ok (.aload_n 0, 1) := by decide +kernel
theorem dX6_sea_50 : decode cX6_sea 50 = .ok (.getfield 60, 3) := by decide +kernel
theorem dX6_sea_53 : decode cX6_sea 53 = .ok (.aload_n 0, 1) := by decide +kernel
theorem dX6_sea_54 : decode cX6_sea 54 = .ok (.getfield 73, 3) := by decide +kernel
theorem dX6_sea_57 : decode cX6_sea 57 = .ok (.isub, 1) := by decide +kernel
theorem dX6_sea_58 : decode cX6_sea 58 = .ok (.iconst 3, 1) := by decide +kernel
theorem dX6_sea_59 : decode cX6_sea 59 = .ok (.idiv, 1) := by decide +kernel
theorem dX6_sea_60 : decode cX6_sea 60 = .ok (.putfield 102, 3) := by decide +kernel
theorem dX6_sea_63 : decode cX6_sea 63 = .ok (.iconst 0, 1) := by decide +kernel
theorem dX6_sea_64 : decode cX6_sea 64 = .ok (.istore_n 1, 1) := by decide +kernel
theorem dX6_sea_65 : decode cX6_sea 65 = .ok (.iload_n 1, 1) := by decide +kernel
theorem dX6_sea_66 : decode cX6_sea 66 = .ok (.iconst 4, 1) := by decide +kernel
theorem dX6_sea_67 : decode cX6_sea 67 = .ok (.if_icmp .ge 45, 3) := by decide +kernel
theorem dX6_sea_70 : decode cX6_sea 70 = .ok (.aload_n 0, 1) := by decide +kernel
theorem dX6_sea_71 : decode cX6_sea 71 = .ok (.getfield 13, 3) := by decide +kernel
theorem dX6_sea_74 : decode cX6_sea 74 = .ok (.iload_n 1, 1) := by decide +kernel
theorem dX6_sea_75 : decode cX6_sea 75 = .ok (.aload_n 0, 1) := by decide +kernel
theorem dX6_sea_76 : decode cX6_sea 76 = .ok (.getfield 7, 3) := by decide +kernel
theorem dX6_sea_79 : decode cX6_sea 79 = .ok (.iconst 2, 1) := by decide +kernel
theorem dX6_sea_80 : decode cX6_sea 80 = .ok (.iload_n 1, 1) := by decide +kernel
theorem dX6_sea_81 : decode cX6_sea 81 = .ok (.imul, 1) := by decide +kernel
theorem dX6_sea_82 : decode cX6_sea 82 = .ok (.iaload, 1) := by decide +kernel
theorem dX6_sea_83 : decode cX6_sea 83 = .ok (.invokestatic 63, 3) := by decide +kernel
theorem dX6_sea_86 : decode cX6_sea 86 = .ok (.iastore, 1) := by decide +kernel
theorem dX6_sea_87 : decode cX6_sea 87 = .ok (.aload_n 0, 1) := by decide +kernel
theorem dX6_sea_88 : decode cX6_sea 88 = .ok (.getfield 16, 3) := by decide +kernel
theorem dX6_sea_91 : decode cX6_sea 91 = .ok (.iload_n 1, 1) := by decide +kernel
theorem dX6_sea_92 : decode cX6_sea 92 = .ok (.aload_n 0, 1) := by decide +kernel
theorem dX6_sea_93 : decode cX6_sea 93 = .ok (.getfield 7, 3) := by decide +kernel
theorem dX6_sea_96 : decode cX6_sea 96 = .ok (.iconst 2, 1) := by decide +kernel
theorem dX6_sea_97 : decode cX6_sea 97 = .ok (.iload_n 1, 1) := by decide +kernel
theorem dX6_sea_98 : decode cX6_sea 98 = .ok (.imul, 1) := by decide +kernel
theorem dX6_sea_99 : decode cX6_sea 99 = .ok (.iconst 1, 1) := by decide +kernel
theorem dX6_sea_100 : decode cX6_sea 100 = .ok (.iadd, 1) := by decide +kernel
theorem dX6_sea_101 : decode cX6_sea 101 = .ok (.iaload, 1) := by decide +kernel
theorem dX6_sea_102 : decode cX6_sea 102 = .ok (.bipush 48, 2) := by decide +kernel
theorem dX6_sea_104 : decode cX6_sea 104 = .ok (.isub, 1) := by decide +kernel
theorem dX6_sea_105 : decode cX6_sea 105 = .ok (.iastore, 1) := by decide +kernel
theorem dX6_sea_106 : decode cX6_sea 106 = .ok (.iinc 1 1, 3) := by decide +kernel
theorem dX6_sea_109 : decode cX6_sea 109 = .ok (.goto (-44), 3) := by decide +kernel
theorem dX6_sea_112 : decode cX6_sea 112 = .ok (.iconst 0, 1) := by decide +kernel
theorem dX6_sea_113 : decode cX6_sea 113 = .ok (.istore_n 1, 1) := by decide +kernel
theorem dX6_sea_114 : decode cX6_sea 114 = .ok (.iload_n 1, 1) := by decide +kernel
theorem dX6_sea_115 : decode cX6_sea 115 = .ok (.iconst 3, 1) := by decide +kernel
theorem dX6_sea_116 : decode cX6_sea 116 = .ok (.if_icmp .ge 44, 3) := by decide +kernel
theorem dX6_sea_119 : decode cX6_sea 119 = .ok (.aload_n 0, 1) := by decide +kernel
theorem dX6_sea_120 : decode cX6_sea 120 = .ok (.getfield 19, 3) := by decide +kernel
theorem dX6_sea_123 : decode cX6_sea 123 = .ok (.iload_n 1, 1) := by decide +kernel
theorem dX6_sea_124 : decode cX6_sea 124 = .ok (.iload_n 1, 1) := by decide +kernel
theorem dX6_sea_125 : decode cX6_sea 125 = .ok (.aload_n 0, 1) := by decide +kernel
theorem dX6_sea_126 : decode cX6_sea 126 = .ok (.getfield 99, 3) := by decide +kernel
theorem dX6_sea_129 : decode cX6_sea 129 = .ok (.if_icmp .ge 16, 3) := by decide +kernel
theorem dX6_sea_132 : decode cX6_sea 132 = .ok (.aload_n 0, 1) := by decide +kernel
theorem dX6_sea_133 : decode cX6_sea 133 = .ok (.bipush 9, 2) := by decide +kernel
theorem dX6_sea_135 : decode cX6_sea 135 = .ok (.iconst 3, 1) := by decide +kernel
theorem dX6_sea_136 : decode cX6_sea 136 = .ok (.iload_n 1, 1) := by decide +kernel
theorem dX6_sea_137 : decode cX6_sea 137 = .ok (.imul, 1) := by decide +kernel
theorem dX6_sea_138 : decode cX6_sea 138 = .ok (.iadd, 1) := by decide +kernel
theorem dX6_sea_139 : decode cX6_sea 139 = .ok (.invokevirtual 76, 3) := by decide +kernel
theorem dX6_sea_142 : decode cX6_sea 142 = .ok (.goto 4, 3) := by decide +kernel
theorem dX6_sea_145 : decode cX6_sea 145 = .ok (.iconst 0, 1) := by decide +kernel
theorem dX6_sea_146 : decode cX6_sea 146 = .ok (.iastore, 1) := by decide +kernel
theorem dX6_sea_147 : decode cX6_sea 147 = .ok (.aload_n 0, 1) := by decide +kernel
theorem dX6_sea_148 : decode cX6_sea 148 = .ok (.getfield 22, 3) := by decide +kernel
theorem dX6_sea_151 : decode cX6_sea 151 = .ok (.iload_n 1, 1) := by decide +kernel
theorem dX6_sea_152 : decode cX6_sea 152 = .ok (.iconst 0, 1) := by decide +kernel
theorem dX6_sea_153 : decode cX6_sea 153 = .ok (.iastore, 1) := by decide +kernel
theorem dX6_sea_154 : decode cX6_sea 154 = .ok (.iinc 1 1, 3) := by decide +kernel
theorem dX6_sea_157 : decode cX6_sea 157 = .ok (.goto (-43), 3) := by decide +kernel
theorem dX6_sea_160 : decode cX6_sea 160 = .ok (.aload_n 0, 1) := by decide +kernel
theorem dX6_sea_161 : decode cX6_sea 161 = .ok (.lconst 0, 1) := by decide +kernel
theorem dX6_sea_162 : decode cX6_sea 162 = .ok (.putfield 105, 3) := by decide +kernel
theorem dX6_sea_165 : decode cX6_sea 165 = .ok (.iconst 0, 1) := by decide +kernel
theorem dX6_sea_166 : decode cX6_sea 166 = .ok (.istore_n 1, 1) := by decide +kernel
theorem dX6_sea_167 : decode cX6_sea 167 = .ok (.iload_n 1, 1) := by decide +kernel
theorem dX6_sea_168 : decode cX6_sea 168 = .ok (.aload_n 0, 1) := by decide +kernel
theorem dX6_sea_169 : decode cX6_sea 169 = .ok (.getfield 102, 3) := by decide +kernel
theorem dX6_sea_172 : decode cX6_sea 172 = .ok (.if_icmp .ge 34, 3) := by decide +kernel
theorem dX6_sea_175 : decode cX6_sea 175 = .ok (.aload_n 0, 1) := by decide +kernel
theorem dX6_sea_176 : decode cX6_sea 176 = .ok (.dup, 1) := by decide +kernel
theorem dX6_sea_177 : decode cX6_sea 177 = .ok (.getfield 105, 3) := by decide +kernel
theorem dX6_sea_180 : decode cX6_sea 180 = .ok (.lconst 1, 1) := by decide +kernel
theorem dX6_sea_181 : decode cX6_sea 181 = .ok (.aload_n 0, 1) := by decide +kernel
theorem dX6_sea_182 : decode cX6_sea 182 = .ok (.aload_n 0, 1) := by decide +kernel
theorem dX6_sea_183 : decode cX6_sea 183 = .ok (.getfield 73, 3) := by decide +kernel
theorem dX6_sea_186 : decode cX6_sea 186 = .ok (.iconst 1, 1) := by decide +kernel
theorem dX6_sea_187 : decode cX6_sea 187 = .ok (.iadd, 1) := by decide +kernel
theorem dX6_sea_188 : decode cX6_sea 188 = .ok (.iconst 3, 1) := by decide +kernel
theorem dX6_sea_189 : decode cX6_sea 189 = .ok (.iload_n 1, 1) := by decide +kernel
theorem dX6_sea_190 : decode cX6_sea 190 = .ok (.imul, 1) := by decide +kernel
theorem dX6_sea_191 : decode cX6_sea 191 = .ok (.iadd, 1) := by decide +kernel
theorem dX6_sea_192 : decode cX6_sea 192 = .ok (.invokevirtual 76, 3) := by decide +kernel
theorem dX6_sea_195 : decode cX6_sea 195 = .ok (.lshl, 1) := by decide +kernel
theorem dX6_sea_196 : decode cX6_sea 196 = .ok (.lor, 1) := by decide +kernel
theorem dX6_sea_197 : decode cX6_sea 197 = .ok (.putfield 105, 3) := by decide +kernel
theorem dX6_sea_200 : decode cX6_sea 200 = .ok (.iinc 1 1, 3) := by decide +kernel
theorem dX6_sea_203 : decode cX6_sea 203 = .ok (.goto (-36), 3) := by decide +kernel
theorem dX6_sea_206 : decode cX6_sea 206 = .ok (.aload_n 0, 1) := by decide +kernel
theorem dX6_sea_207 : decode cX6_sea 207 = .ok (.iconst 0, 1) := by decide +kernel
theorem dX6_sea_208 : decode cX6_sea 208 = .ok (.putfield 109, 3) := by decide +kernel
theorem dX6_sea_211 : decode cX6_sea 211 = .ok (.aload_n 0, 1) := by decide +kernel
theorem dX6_sea_212 : decode cX6_sea 212 = .ok (.iconst 0, 1) := by decide +kernel
theorem dX6_sea_213 : decode cX6_sea 213 = .ok (.putfield 112, 3) := by decide +kernel
theorem dX6_sea_216 : decode cX6_sea 216 = .ok (.aload_n 0, 1) := by decide +kernel
theorem dX6_sea_217 : decode cX6_sea 217 = .ok (.iconst 0, 1) := by decide +kernel
theorem dX6_sea_218 : decode cX6_sea 218 = .ok (.putfield 116, 3) := by decide +kernel
theorem dX6_sea_221 : decode cX6_sea 221 = .ok (.aload_n 0, 1) := by decide +kernel
theorem dX6_sea_222 : decode cX6_sea 222 = .ok (.iconst 0, 1) := by decide +kernel
theorem dX6_sea_223 : decode cX6_sea 223 = .ok (.putfield 119, 3) := by decide +kernel
theorem dX6_sea_226 : decode cX6_sea 226 = .ok (.aload_n 0, 1) := by decide +kernel
theorem dX6_sea_227 : decode cX6_sea 227 = .ok (.dup, 1) := by decide +kernel
theorem dX6_sea_228 : decode cX6_sea 228 = .ok (.getfield 122, 3) := by decide +kernel
theorem dX6_sea_231 : decode cX6_sea 231 = .ok (.iconst 1, 1) := by decide +kernel
theorem dX6_sea_232 : decode cX6_sea 232 = .ok (.iadd, 1) := by decide +kernel
theorem dX6_sea_233 : decode cX6_sea 233 = .ok (.putfield 122, 3) := by decide +kernel
theorem dX6_sea_236 : decode cX6_sea 236 = .ok (.aload_n 0, 1) := by decide +kernel
theorem dX6_sea_237 : decode cX6_sea 237 = .ok (.iconst 0, 1) := by decide +kernel
theorem dX6_sea_238 : decode cX6_sea 238 = .ok (.putfield 60, 3) := by decide +kernel
theorem dX6_sea_241 : decode cX6_sea 241 = .ok (.aload_n 0, 1) := by decide +kernel
theorem dX6_sea_242 : decode cX6_sea 242 = .ok (.getfield 99, 3) := by decide +kernel
theorem dX6_sea_245 : decode cX6_sea 245 = .ok (.ireturn, 1) := by decide +kernel
theorem dX6_lacks_0 : decode cX6_lacks 0 = .ok (.aload_n 0, 1) := by decide +kernel
theorem dX6_lacks_1 : decode cX6_lacks 1 = .ok (.getfield 99, 3) := by decide +kernel
theorem dX6_lacks_4 : decode cX6_lacks 4 = .ok (.ifCond .ne 7, 3) := by decide +kernel
theorem dX6_lacks_7 : decode cX6_lacks 7 = .ok (.iconst 1, 1) := by decide +kernel
theorem dX6_lacks_8 : decode cX6_lacks 8 = .ok (.goto 4, 3) := by decide +kernel
theorem dX6_lacks_11 : decode cX6_lacks 11 = .ok (.iconst 0, 1) := by decide +kernel
theorem dX6_lacks_12 : decode cX6_lacks 12 = .ok (.ireturn, 1) := by decide +kernel
set_option maxRecDepth 20000 in
theorem ggX6_isLodger_X6_lacks : GoodIn wsX6_isLodger wsX6_lacks := goodIn_r _ [6, 7, 11, 12, 13, 14, 15, 16, 17, 18, 19, 20, 21, 22, 23, 24, 25, 26, 27, 28, 29, 30, 31, 32, 33, 34, 35, 36, 37, 38, 39, 40] (by decide +kernel) (by decide +kernel)
set_option maxRecDepth 20000 in
theorem gX6_isLodger_X6_lacks : GoodIn wsX6_isLodger (wsV RX6 125 RX6 yX6_lacks wsX6_lacks) := goodIn_app (goodIn_of _ (by decide +kernel)) ggX6_isLodger_X6_lacks
set_option maxRecDepth 20000 in
theorem ggX6_isLodger_X6_in : GoodIn wsX6_isLodger wsX6_in := goodIn_r _ [10] (by decide +kernel) (by decide +kernel)
set_option maxRecDepth 20000 in
theorem gX6_isLodger_X6_in : GoodIn wsX6_isLodger (va_wsS RX6 56 yX6_in wsX6_in) := goodIn_app (goodIn_of _ (by decide +kernel)) ggX6_isLodger_X6_in
theorem dX6_isLodger_0 : decode cX6_isLodger 0 = .ok (.aload_n 0, 1) := by decide +kernel
theorem dX6_isLodger_1 : decode cX6_isLodger 1 = .ok (.invokevirtual 125, 3) := by decide +kernel
theorem dX6_isLodger_4 : decode cX6_isLodger 4 = .ok (.ifCond .ne 19, 3) := by decide +kernel
theorem dX6_isLodger_7 : decode cX6_isLodger 7 = .ok (.iload_n 1, 1) := by decide +kernel
theorem dX6_isLodger_8 : decode cX6_isLodger 8 = .ok (.i2l, 1) := by decide +kernel
theorem dX6_isLodger_9 : decode cX6_isLodger 9 = .ok (.lconst 0, 1) := by decide +kernel
theorem dX6_isLodger_10 : decode cX6_isLodger 10 = .ok (.ldc2_w 129, 3) := by decide +kernel
theorem dX6_isLodger_13 : decode cX6_isLodger 13 = .ok (.invokestatic 56, 3) := by decide +kernel
theorem dX6_isLodger_16 : decode cX6_isLodger 16 = .ok (.ifCond .eq 7, 3) := by decide +kernel
theorem dX6_isLodger_19 : decode cX6_isLodger 19 = .ok (.iconst 1, 1) := by decide +kernel
theorem dX6_isLodger_20 : decode cX6_isLodger 20 = .ok (.goto 4, 3) := by decide +kernel
theorem dX6_isLodger_23 : decode cX6_isLodger 23 = .ok (.iconst 0, 1) := by decide +kernel
theorem dX6_isLodger_24 : decode cX6_isLodger 24 = .ok (.ireturn, 1) := by decide +kernel
set_option maxRecDepth 20000 in
theorem ggX6_isShip_X6_in : GoodIn wsX6_isShip wsX6_in := goodIn_r _ [5] (by decide +kernel) (by decide +kernel)
set_option maxRecDepth 20000 in
theorem gX6_isShip_X6_in : GoodIn wsX6_isShip (va_wsS RX6 56 yX6_in wsX6_in) := goodIn_app (goodIn_of _ (by decide +kernel)) ggX6_isShip_X6_in
theorem dX6_isShip_0 : decode cX6_isShip 0 = .ok (.iload_n 1, 1) := by decide +kernel
theorem dX6_isShip_1 : decode cX6_isShip 1 = .ok (.i2l, 1) := by decide +kernel
theorem dX6_isShip_2 : decode cX6_isShip 2 = .ok (.lconst 0, 1) := by decide +kernel
theorem dX6_isShip_3 : decode cX6_isShip 3 = .ok (.aload_n 0, 1) := by decide +kernel
theorem dX6_isShip_4 : decode cX6_isShip 4 = .ok (.getfield 99, 3) := by decide +kernel
theorem dX6_isShip_7 : decode cX6_isShip 7 = .ok (.iconst 1, 1) := by decide +kernel
theorem dX6_isShip_8 : decode cX6_isShip 8 = .ok (.isub, 1) := by decide +kernel
theorem dX6_isShip_9 : decode cX6_isShip 9 = .ok (.i2l, 1) := by decide +kernel
theorem dX6_isShip_10 : decode cX6_isShip 10 = .ok (.invokestatic 56, 3) := by decide +kernel
theorem dX6_isShip_13 : decode cX6_isShip 13 = .ok (.ireturn, 1) := by decide +kernel
set_option maxRecDepth 20000 in
theorem ggX6_isCell_X6_lacks : GoodIn wsX6_isCell wsX6_lacks := goodIn_r _ [6, 7, 11, 12, 13, 14, 15, 16, 17, 18, 19, 20, 21, 22, 23, 24, 25, 26, 27, 28, 29, 30, 31, 32, 33, 34, 35, 36, 37, 38, 39, 40] (by decide +kernel) (by decide +kernel)
set_option maxRecDepth 20000 in
theorem gX6_isCell_X6_lacks : GoodIn wsX6_isCell (wsV RX6 125 RX6 yX6_lacks wsX6_lacks) := goodIn_app (goodIn_of _ (by decide +kernel)) ggX6_isCell_X6_lacks
set_option maxRecDepth 20000 in
theorem ggX6_isCell_X6_in : GoodIn wsX6_isCell wsX6_in := goodIn_r _ [10] (by decide +kernel) (by decide +kernel)
set_option maxRecDepth 20000 in
theorem gX6_isCell_X6_in : GoodIn wsX6_isCell (va_wsS RX6 56 yX6_in wsX6_in) := goodIn_app (goodIn_of _ (by decide +kernel)) ggX6_isCell_X6_in
theorem dX6_isCell_0 : decode cX6_isCell 0 = .ok (.aload_n 0, 1) := by decide +kernel
theorem dX6_isCell_1 : decode cX6_isCell 1 = .ok (.invokevirtual 125, 3) := by decide +kernel
theorem dX6_isCell_4 : decode cX6_isCell 4 = .ok (.ifCond .ne 19, 3) := by decide +kernel
theorem dX6_isCell_7 : decode cX6_isCell 7 = .ok (.iload_n 1, 1) := by decide +kernel
theorem dX6_isCell_8 : decode cX6_isCell 8 = .ok (.i2l, 1) := by decide +kernel
theorem dX6_isCell_9 : decode cX6_isCell 9 = .ok (.lconst 0, 1) := by decide +kernel
theorem dX6_isCell_10 : decode cX6_isCell 10 = .ok (.ldc2_w 131, 3) := by decide +kernel
theorem dX6_isCell_13 : decode cX6_isCell 13 = .ok (.invokestatic 56, 3) := by decide +kernel
theorem dX6_isCell_16 : decode cX6_isCell 16 = .ok (.ifCond .eq 7, 3) := by decide +kernel
theorem dX6_isCell_19 : decode cX6_isCell 19 = .ok (.iconst 1, 1) := by decide +kernel
theorem dX6_isCell_20 : decode cX6_isCell 20 = .ok (.goto 4, 3) := by decide +kernel
theorem dX6_isCell_23 : decode cX6_isCell 23 = .ok (.iconst 0, 1) := by decide +kernel
theorem dX6_isCell_24 : decode cX6_isCell 24 = .ok (.ireturn, 1) := by decide +kernel
theorem dX6_isUpBy_0 : decode cX6_isUpBy 0 = .ok (.iload_n 0, 1) := by decide +kernel
theorem dX6_isUpBy_1 : decode cX6_isUpBy 1 = .ok (.tableswitch 89 1 4 #[31, 48, 64, 66], 31) := by decide +kernel
theorem dX6_isUpBy_32 : decode cX6_isUpBy 32 = .ok (.iload_n 1, 1) := by decide +kernel
theorem dX6_isUpBy_33 : decode cX6_isUpBy 33 = .ok (.ifCond .ne 14, 3) := by decide +kernel
theorem dX6_isUpBy_36 : decode cX6_isUpBy 36 = .ok (.iload_n 2, 1) := by decide +kernel
theorem dX6_isUpBy_37 : decode cX6_isUpBy 37 = .ok (.iconst 2, 1) := by decide +kernel
theorem dX6_isUpBy_38 : decode cX6_isUpBy 38 = .ok (.irem, 1) := by decide +kernel
theorem dX6_isUpBy_39 : decode cX6_isUpBy 39 = .ok (.iconst 1, 1) := by decide +kernel
theorem dX6_isUpBy_40 : decode cX6_isUpBy 40 = .ok (.if_icmp .ne 7, 3) := by decide +kernel
theorem dX6_isUpBy_43 : decode cX6_isUpBy 43 = .ok (.iconst 1, 1) := by decide +kernel
theorem dX6_isUpBy_44 : decode cX6_isUpBy 44 = .ok (.goto 4, 3) := by decide +kernel
theorem dX6_isUpBy_47 : decode cX6_isUpBy 47 = .ok (.iconst 0, 1) := by decide +kernel
theorem dX6_isUpBy_48 : decode cX6_isUpBy 48 = .ok (.ireturn, 1) := by decide +kernel
theorem dX6_isUpBy_49 : decode cX6_isUpBy 49 = .ok (.iload_n 1, 1) := by decide +kernel
theorem dX6_isUpBy_50 : decode cX6_isUpBy 50 = .ok (.ifCond .ne 13, 3) := by decide +kernel
theorem dX6_isUpBy_53 : decode cX6_isUpBy 53 = .ok (.iload_n 2, 1) := by decide +kernel
theorem dX6_isUpBy_54 : decode cX6_isUpBy 54 = .ok (.iconst 3, 1) := by decide +kernel
theorem dX6_isUpBy_55 : decode cX6_isUpBy 55 = .ok (.irem, 1) := by decide +kernel
theorem dX6_isUpBy_56 : decode cX6_isUpBy 56 = .ok (.ifCond .eq 7, 3) := by decide +kernel
theorem dX6_isUpBy_59 : decode cX6_isUpBy 59 = .ok (.iconst 1, 1) := by decide +kernel
theorem dX6_isUpBy_60 : decode cX6_isUpBy 60 = .ok (.goto 4, 3) := by decide +kernel
theorem dX6_isUpBy_63 : decode cX6_isUpBy 63 = .ok (.iconst 0, 1) := by decide +kernel
theorem dX6_isUpBy_64 : decode cX6_isUpBy 64 = .ok (.ireturn, 1) := by decide +kernel
theorem dX6_isUpBy_65 : decode cX6_isUpBy 65 = .ok (.iconst 1, 1) := by decide +kernel
theorem dX6_isUpBy_66 : decode cX6_isUpBy 66 = .ok (.ireturn, 1) := by decide +kernel
theorem dX6_isUpBy_67 : decode cX6_isUpBy 67 = .ok (.iload_n 1, 1) := by decide +kernel
theorem dX6_isUpBy_68 : decode cX6_isUpBy 68 = .ok (.ifCond .ne 10, 3) := by decide +kernel
theorem dX6_isUpBy_71 : decode cX6_isUpBy 71 = .ok (.iload_n 2, 1) := by decide +kernel
theorem dX6_isUpBy_72 : decode cX6_isUpBy 72 = .ok (.iconst 2, 1) := by decide +kernel
theorem dX6_isUpBy_73 : decode cX6_isUpBy 73 = .ok (.irem, 1) := by decide +kernel
theorem dX6_isUpBy_74 : decode cX6_isUpBy 74 = .ok (.iconst 1, 1) := by decide +kernel
theorem dX6_isUpBy_75 : decode cX6_isUpBy 75 = .ok (.if_icmp .eq 9, 3) := by decide +kernel
theorem dX6_isUpBy_78 : decode cX6_isUpBy 78 = .ok (.iload_n 2, 1) := by decide +kernel
theorem dX6_isUpBy_79 : decode cX6_isUpBy 79 = .ok (.iconst 4, 1) := by decide +kernel
theorem dX6_isUpBy_80 : decode cX6_isUpBy 80 = .ok (.irem, 1) := by decide +kernel
theorem dX6_isUpBy_81 : decode cX6_isUpBy 81 = .ok (.ifCond .ne 7, 3) := by decide +kernel
theorem dX6_isUpBy_84 : decode cX6_isUpBy 84 = .ok (.iconst 1, 1) := by decide +kernel
theorem dX6_isUpBy_85 : decode cX6_isUpBy 85 = .ok (.goto 4, 3) := by decide +kernel
theorem dX6_isUpBy_88 : decode cX6_isUpBy 88 = .ok (.iconst 0, 1) := by decide +kernel
theorem dX6_isUpBy_89 : decode cX6_isUpBy 89 = .ok (.ireturn, 1) := by decide +kernel
theorem dX6_isUpBy_90 : decode cX6_isUpBy 90 = .ok (.iload_n 1, 1) := by decide +kernel
theorem dX6_isUpBy_91 : decode cX6_isUpBy 91 = .ok (.ifCond .ne 7, 3) := by decide +kernel
theorem dX6_isUpBy_94 : decode cX6_isUpBy 94 = .ok (.iconst 1, 1) := by decide +kernel
theorem dX6_isUpBy_95 : decode cX6_isUpBy 95 = .ok (.goto 4, 3) := by decide +kernel
theorem dX6_isUpBy_98 : decode cX6_isUpBy 98 = .ok (.iconst 0, 1) := by decide +kernel
theorem dX6_isUpBy_99 : decode cX6_isUpBy 99 = .ok (.ireturn, 1) := by decide +kernel
set_option maxRecDepth 20000 in
theorem ggX6_isUp_X6_isUpBy : GoodIn wsX6_isUp wsX6_isUpBy := goodIn_r _ [7] (by decide +kernel) (by decide +kernel)
set_option maxRecDepth 20000 in
theorem gX6_isUp_X6_isUpBy : GoodIn wsX6_isUp (va_wsS RX6 133 yX6_isUpBy wsX6_isUpBy) := goodIn_app (goodIn_of _ (by decide +kernel)) ggX6_isUp_X6_isUpBy
theorem dX6_isUp_0 : decode cX6_isUp 0 = .ok (.iload_n 1, 1) := by decide +kernel
theorem dX6_isUp_1 : decode cX6_isUp 1 = .ok (.iconst 4, 1) := by decide +kernel
theorem dX6_isUp_2 : decode cX6_isUp 2 = .ok (.if_icmp .ne 26, 3) := by decide +kernel
theorem dX6_isUp_5 : decode cX6_isUp 5 = .ok (.aload_n 0, 1) := by decide +kernel
theorem dX6_isUp_6 : decode cX6_isUp 6 = .ok (.getfield 112, 3) := by decide +kernel
theorem dX6_isUp_9 : decode cX6_isUp 9 = .ok (.ifCond .eq 15, 3) := by decide +kernel
theorem dX6_isUp_12 : decode cX6_isUp 12 = .ok (.iload_n 2, 1) := by decide +kernel
theorem dX6_isUp_13 : decode cX6_isUp 13 = .ok (.bipush 7, 2) := by decide +kernel
theorem dX6_isUp_15 : decode cX6_isUp 15 = .ok (.irem, 1) := by decide +kernel
theorem dX6_isUp_16 : decode cX6_isUp 16 = .ok (.iconst 3, 1) := by decide +kernel
theorem dX6_isUp_17 : decode cX6_isUp 17 = .ok (.if_icmp .ne 7, 3) := by decide +kernel
theorem dX6_isUp_20 : decode cX6_isUp 20 = .ok (.iconst 1, 1) := by decide +kernel
theorem dX6_isUp_21 : decode cX6_isUp 21 = .ok (.goto 32, 3) := by decide +kernel
theorem dX6_isUp_24 : decode cX6_isUp 24 = .ok (.iconst 0, 1) := by decide +kernel
theorem dX6_isUp_25 : decode cX6_isUp 25 = .ok (.goto 28, 3) := by decide +kernel
theorem dX6_isUp_28 : decode cX6_isUp 28 = .ok (.aload_n 0, 1) := by decide +kernel
theorem dX6_isUp_29 : decode cX6_isUp 29 = .ok (.getfield 13, 3) := by decide +kernel
theorem dX6_isUp_32 : decode cX6_isUp 32 = .ok (.iload_n 1, 1) := by decide +kernel
theorem dX6_isUp_33 : decode cX6_isUp 33 = .ok (.iaload, 1) := by decide +kernel
theorem dX6_isUp_34 : decode cX6_isUp 34 = .ok (.iload_n 2, 1) := by decide +kernel
theorem dX6_isUp_35 : decode cX6_isUp 35 = .ok (.aload_n 0, 1) := by decide +kernel
theorem dX6_isUp_36 : decode cX6_isUp 36 = .ok (.getfield 16, 3) := by decide +kernel
theorem dX6_isUp_39 : decode cX6_isUp 39 = .ok (.iload_n 1, 1) := by decide +kernel
theorem dX6_isUp_40 : decode cX6_isUp 40 = .ok (.iaload, 1) := by decide +kernel
theorem dX6_isUp_41 : decode cX6_isUp 41 = .ok (.if_icmp .ge 7, 3) := by decide +kernel
theorem dX6_isUp_44 : decode cX6_isUp 44 = .ok (.iconst 1, 1) := by decide +kernel
theorem dX6_isUp_45 : decode cX6_isUp 45 = .ok (.goto 4, 3) := by decide +kernel
theorem dX6_isUp_48 : decode cX6_isUp 48 = .ok (.iconst 0, 1) := by decide +kernel
theorem dX6_isUp_49 : decode cX6_isUp 49 = .ok (.iload_n 2, 1) := by decide +kernel
theorem dX6_isUp_50 : decode cX6_isUp 50 = .ok (.invokestatic 133, 3) := by decide +kernel
theorem dX6_isUp_53 : decode cX6_isUp 53 = .ok (.ireturn, 1) := by decide +kernel
set_option maxRecDepth 20000 in
theorem ggX6_leads_X6_in : GoodIn wsX6_leads wsX6_in := goodIn_r _ [6] (by decide +kernel) (by decide +kernel)
set_option maxRecDepth 20000 in
theorem gX6_leads_X6_in : GoodIn wsX6_leads (va_wsS RX6 56 yX6_in wsX6_in) := goodIn_app (goodIn_of _ (by decide +kernel)) ggX6_leads_X6_in
theorem dX6_leads_0 : decode cX6_leads 0 = .ok (.iload_n 1, 1) := by decide +kernel
theorem dX6_leads_1 : decode cX6_leads 1 = .ok (.bipush 6, 2) := by decide +kernel
theorem dX6_leads_3 : decode cX6_leads 3 = .ok (.idiv, 1) := by decide +kernel
theorem dX6_leads_4 : decode cX6_leads 4 = .ok (.istore_n 3, 1) := by decide +kernel
theorem dX6_leads_5 : decode cX6_leads 5 = .ok (.iload_n 1, 1) := by decide +kernel
theorem dX6_leads_6 : decode cX6_leads 6 = .ok (.bipush 6, 2) := by decide +kernel
theorem dX6_leads_8 : decode cX6_leads 8 = .ok (.irem, 1) := by decide +kernel
theorem dX6_leads_9 : decode cX6_leads 9 = .ok (.istore 4, 2) := by decide +kernel
theorem dX6_leads_11 : decode cX6_leads 11 = .ok (.iload_n 2, 1) := by decide +kernel
theorem dX6_leads_12 : decode cX6_leads 12 = .ok (.tableswitch 56 0 3 #[32, 38, 44, 50], 32) := by decide +kernel
theorem dX6_leads_44 : decode cX6_leads 44 = .ok (.iinc 3 (-1), 3) := by decide +kernel
theorem dX6_leads_47 : decode cX6_leads 47 = .ok (.goto 27, 3) := by decide +kernel
theorem dX6_leads_50 : decode cX6_leads 50 = .ok (.iinc 4 1, 3) := by decide +kernel
theorem dX6_leads_53 : decode cX6_leads 53 = .ok (.goto 21, 3) := by decide +kernel
theorem dX6_leads_56 : decode cX6_leads 56 = .ok (.iinc 3 1, 3) := by decide +kernel
theorem dX6_leads_59 : decode cX6_leads 59 = .ok (.goto 15, 3) := by decide +kernel
theorem dX6_leads_62 : decode cX6_leads 62 = .ok (.iinc 4 (-1), 3) := by decide +kernel
theorem dX6_leads_65 : decode cX6_leads 65 = .ok (.goto 9, 3) := by decide +kernel
theorem dX6_leads_68 : decode cX6_leads 68 = .ok (.iinc 3 1, 3) := by decide +kernel
theorem dX6_leads_71 : decode cX6_leads 71 = .ok (.iinc 4 2, 3) := by decide +kernel
theorem dX6_leads_74 : decode cX6_leads 74 = .ok (.iload_n 3, 1) := by decide +kernel
theorem dX6_leads_75 : decode cX6_leads 75 = .ok (.i2l, 1) := by decide +kernel
theorem dX6_leads_76 : decode cX6_leads 76 = .ok (.lconst 0, 1) := by decide +kernel
theorem dX6_leads_77 : decode cX6_leads 77 = .ok (.ldc2_w 137, 3) := by decide +kernel
theorem dX6_leads_80 : decode cX6_leads 80 = .ok (.invokestatic 56, 3) := by decide +kernel
theorem dX6_leads_83 : decode cX6_leads 83 = .ok (.ifCond .eq 20, 3) := by decide +kernel
theorem dX6_leads_86 : decode cX6_leads 86 = .ok (.iload 4, 2) := by decide +kernel
theorem dX6_leads_88 : decode cX6_leads 88 = .ok (.i2l, 1) := by decide +kernel
theorem dX6_leads_89 : decode cX6_leads 89 = .ok (.lconst 0, 1) := by decide +kernel
theorem dX6_leads_90 : decode cX6_leads 90 = .ok (.ldc2_w 137, 3) := by decide +kernel
theorem dX6_leads_93 : decode cX6_leads 93 = .ok (.invokestatic 56, 3) := by decide +kernel
theorem dX6_leads_96 : decode cX6_leads 96 = .ok (.ifCond .eq 7, 3) := by decide +kernel
theorem dX6_leads_99 : decode cX6_leads 99 = .ok (.iconst 1, 1) := by decide +kernel
theorem dX6_leads_100 : decode cX6_leads 100 = .ok (.goto 4, 3) := by decide +kernel
theorem dX6_leads_103 : decode cX6_leads 103 = .ok (.iconst 0, 1) := by decide +kernel
theorem dX6_leads_104 : decode cX6_leads 104 = .ok (.istore 5, 2) := by decide +kernel
theorem dX6_leads_106 : decode cX6_leads 106 = .ok (.iload 5, 2) := by decide +kernel
theorem dX6_leads_108 : decode cX6_leads 108 = .ok (.ifCond .eq 32, 3) := by decide +kernel
theorem dX6_leads_111 : decode cX6_leads 111 = .ok (.aload_n 0, 1) := by decide +kernel
theorem dX6_leads_112 : decode cX6_leads 112 = .ok (.getfield 105, 3) := by decide +kernel
theorem dX6_leads_115 : decode cX6_leads 115 = .ok (.bipush 6, 2) := by decide +kernel
theorem dX6_leads_117 : decode cX6_leads 117 = .ok (.iload_n 3, 1) := by decide +kernel
theorem dX6_leads_118 : decode cX6_leads 118 = .ok (.imul, 1) := by decide +kernel
theorem dX6_leads_119 : decode cX6_leads 119 = .ok (.iload 4, 2) := by decide +kernel
theorem dX6_leads_121 : decode cX6_leads 121 = .ok (.iadd, 1) := by decide +kernel
theorem dX6_leads_122 : decode cX6_leads 122 = .ok (.lshr, 1) := by decide +kernel
theorem dX6_leads_123 : decode cX6_leads 123 = .ok (.lconst 1, 1) := by decide +kernel
theorem dX6_leads_124 : decode cX6_leads 124 = .ok (.land, 1) := by decide +kernel
theorem dX6_leads_125 : decode cX6_leads 125 = .ok (.lconst 0, 1) := by decide +kernel
theorem dX6_leads_126 : decode cX6_leads 126 = .ok (.lcmp, 1) := by decide +kernel
theorem dX6_leads_127 : decode cX6_leads 127 = .ok (.ifCond .ne 13, 3) := by decide +kernel
theorem dX6_leads_130 : decode cX6_leads 130 = .ok (.bipush 6, 2) := by decide +kernel
theorem dX6_leads_132 : decode cX6_leads 132 = .ok (.iload_n 3, 1) := by decide +kernel
theorem dX6_leads_133 : decode cX6_leads 133 = .ok (.imul, 1) := by decide +kernel
theorem dX6_leads_134 : decode cX6_leads 134 = .ok (.iload 4, 2) := by decide +kernel
theorem dX6_leads_136 : decode cX6_leads 136 = .ok (.iadd, 1) := by decide +kernel
theorem dX6_leads_137 : decode cX6_leads 137 = .ok (.goto 4, 3) := by decide +kernel
theorem dX6_leads_140 : decode cX6_leads 140 = .ok (.iconst (-1), 1) := by decide +kernel
theorem dX6_leads_141 : decode cX6_leads 141 = .ok (.ireturn, 1) := by decide +kernel
theorem dX6_illFor_0 : decode cX6_illFor 0 = .ok (.aload_n 0, 1) := by decide +kernel
theorem dX6_illFor_1 : decode cX6_illFor 1 = .ok (.getfield 16, 3) := by decide +kernel
theorem dX6_illFor_4 : decode cX6_illFor 4 = .ok (.iload_n 1, 1) := by decide +kernel
theorem dX6_illFor_5 : decode cX6_illFor 5 = .ok (.iaload, 1) := by decide +kernel
theorem dX6_illFor_6 : decode cX6_illFor 6 = .ok (.aload_n 0, 1) := by decide +kernel
theorem dX6_illFor_7 : decode cX6_illFor 7 = .ok (.getfield 109, 3) := by decide +kernel
theorem dX6_illFor_10 : decode cX6_illFor 10 = .ok (.if_icmp .le 17, 3) := by decide +kernel
theorem dX6_illFor_13 : decode cX6_illFor 13 = .ok (.aload_n 0, 1) := by decide +kernel
theorem dX6_illFor_14 : decode cX6_illFor 14 = .ok (.getfield 16, 3) := by decide +kernel
theorem dX6_illFor_17 : decode cX6_illFor 17 = .ok (.iload_n 1, 1) := by decide +kernel
theorem dX6_illFor_18 : decode cX6_illFor 18 = .ok (.iaload, 1) := by decide +kernel
theorem dX6_illFor_19 : decode cX6_illFor 19 = .ok (.aload_n 0, 1) := by decide +kernel
theorem dX6_illFor_20 : decode cX6_illFor 20 = .ok (.getfield 109, 3) := by decide +kernel
theorem dX6_illFor_23 : decode cX6_illFor 23 = .ok (.isub, 1) := by decide +kernel
theorem dX6_illFor_24 : decode cX6_illFor 24 = .ok (.goto 4, 3) := by decide +kernel
theorem dX6_illFor_27 : decode cX6_illFor 27 = .ok (.iconst 0, 1) := by decide +kernel
theorem dX6_illFor_28 : decode cX6_illFor 28 = .ok (.ireturn, 1) := by decide +kernel
set_option maxRecDepth 20000 in
theorem ggX6_upDays_X6_isUp : GoodIn wsX6_upDays wsX6_isUp := goodIn_r _ [6, 7, 8, 9, 10, 11, 5, 12, 13, 14, 15, 16, 17, 18, 19, 20, 21, 22, 23, 24, 25, 26, 27, 28, 29, 30, 31, 32, 33, 34, 35, 36, 37, 38, 39, 40, 41, 42] (by decide +kernel) (by decide +kernel)
set_option maxRecDepth 20000 in
theorem gX6_upDays_X6_isUp : GoodIn wsX6_upDays (wsV RX6 139 RX6 yX6_isUp wsX6_isUp) := goodIn_app (goodIn_of _ (by decide +kernel)) ggX6_upDays_X6_isUp
theorem dX6_upDays_0 : decode cX6_upDays 0 = .ok (.iconst 0, 1) := by decide +kernel
theorem dX6_upDays_1 : decode cX6_upDays 1 = .ok (.istore_n 2, 1) := by decide +kernel
theorem dX6_upDays_2 : decode cX6_upDays 2 = .ok (.iconst 0, 1) := by decide +kernel
theorem dX6_upDays_3 : decode cX6_upDays 3 = .ok (.istore_n 3, 1) := by decide +kernel
theorem dX6_upDays_4 : decode cX6_upDays 4 = .ok (.iload_n 3, 1) := by decide +kernel
theorem dX6_upDays_5 : decode cX6_upDays 5 = .ok (.bipush 28, 2) := by decide +kernel
theorem dX6_upDays_7 : decode cX6_upDays 7 = .ok (.if_icmp .ge 31, 3) := by decide +kernel
theorem dX6_upDays_10 : decode cX6_upDays 10 = .ok (.iload_n 2, 1) := by decide +kernel
theorem dX6_upDays_11 : decode cX6_upDays 11 = .ok (.aload_n 0, 1) := by decide +kernel
theorem dX6_upDays_12 : decode cX6_upDays 12 = .ok (.iload_n 1, 1) := by decide +kernel
theorem dX6_upDays_13 : decode cX6_upDays 13 = .ok (.aload_n 0, 1) := by decide +kernel
theorem dX6_upDays_14 : decode cX6_upDays 14 = .ok (.getfield 109, 3) := by decide +kernel
theorem dX6_upDays_17 : decode cX6_upDays 17 = .ok (.iload_n 3, 1) := by decide +kernel
theorem dX6_upDays_18 : decode cX6_upDays 18 = .ok (.iadd, 1) := by decide +kernel
theorem dX6_upDays_19 : decode cX6_upDays 19 = .ok (.invokevirtual 139, 3) := by decide +kernel
theorem dX6_upDays_22 : decode cX6_upDays 22 = .ok (.ifCond .eq 7, 3) := by decide +kernel
theorem dX6_upDays_25 : decode cX6_upDays 25 = .ok (.iconst 1, 1) := by decide +kernel
theorem dX6_upDays_26 : decode cX6_upDays 26 = .ok (.goto 4, 3) := by decide +kernel
theorem dX6_upDays_29 : decode cX6_upDays 29 = .ok (.iconst 0, 1) := by decide +kernel
theorem dX6_upDays_30 : decode cX6_upDays 30 = .ok (.iadd, 1) := by decide +kernel
theorem dX6_upDays_31 : decode cX6_upDays 31 = .ok (.istore_n 2, 1) := by decide +kernel
theorem dX6_upDays_32 : decode cX6_upDays 32 = .ok (.iinc 3 1, 3) := by decide +kernel
theorem dX6_upDays_35 : decode cX6_upDays 35 = .ok (.goto (-31), 3) := by decide +kernel
theorem dX6_upDays_38 : decode cX6_upDays 38 = .ok (.iload_n 2, 1) := by decide +kernel
theorem dX6_upDays_39 : decode cX6_upDays 39 = .ok (.ireturn, 1) := by decide +kernel
set_option maxRecDepth 20000 in
theorem ggX6_tellLodger_X6_illFor : GoodIn wsX6_tellLodger wsX6_illFor := goodIn_r _ [7, 8, 2, 35, 36, 37, 38, 39, 40, 41, 42, 43, 44, 45, 46, 47, 48, 49, 50, 51, 52, 53, 54, 55, 56, 57, 58, 59, 60, 61, 62, 63, 64] (by decide +kernel) (by decide +kernel)
set_option maxRecDepth 20000 in
theorem gX6_tellLodger_X6_illFor : GoodIn wsX6_tellLodger (wsV RX6 143 RX6 yX6_illFor wsX6_illFor) := goodIn_app (goodIn_of _ (by decide +kernel)) ggX6_tellLodger_X6_illFor
set_option maxRecDepth 20000 in
theorem ggX6_tellLodger_X6_isUp : GoodIn wsX6_tellLodger wsX6_isUp := goodIn_r _ [12, 13, 1, 8, 14, 15, 6, 16, 35, 36, 37, 38, 39, 40, 41, 42, 43, 44, 45, 46, 47, 48, 49, 50, 51, 52, 53, 54, 55, 56, 57, 58, 59, 60, 61, 62, 63, 64] (by decide +kernel) (by decide +kernel)
set_option maxRecDepth 20000 in
theorem gX6_tellLodger_X6_isUp : GoodIn wsX6_tellLodger (wsV RX6 139 RX6 yX6_isUp wsX6_isUp) := goodIn_app (goodIn_of _ (by decide +kernel)) ggX6_tellLodger_X6_isUp
set_option maxRecDepth 20000 in
theorem ggX6_tellLodger_X6_kindsOf : GoodIn wsX6_tellLodger wsX6_kindsOf := goodIn_r _ [20, 21, 22, 23, 24, 25, 6, 26, 2, 8, 14, 15, 16, 35, 36, 37, 38, 39, 40, 41, 42, 43, 44, 45, 46, 47, 48, 49, 50, 51, 52, 53, 54, 55, 56, 57, 58, 59, 60, 61, 62, 63, 64] (by decide +kernel) (by decide +kernel)
set_option maxRecDepth 20000 in
theorem gX6_tellLodger_X6_kindsOf : GoodIn wsX6_tellLodger (wsV RX6 146 RX6 yX6_kindsOf wsX6_kindsOf) := goodIn_app (goodIn_of _ (by decide +kernel)) ggX6_tellLodger_X6_kindsOf
set_option maxRecDepth 20000 in
theorem ggX6_tellLodger_X6_lookOf : GoodIn wsX6_tellLodger wsX6_lookOf := goodIn_r _ [30, 17, 18, 19, 6, 20, 21, 22, 23, 24, 25, 26, 2, 8, 14, 15, 16, 35, 36, 37, 38, 39, 40, 41, 42, 43, 44, 45, 46, 47, 48, 49, 50, 51, 52, 53, 54, 55, 56, 57, 58, 59, 60, 61, 62, 63, 64] (by decide +kernel) (by decide +kernel)
set_option maxRecDepth 20000 in
theorem gX6_tellLodger_X6_lookOf : GoodIn wsX6_tellLodger (wsV RX6 149 RX6 yX6_lookOf wsX6_lookOf) := goodIn_app (goodIn_of _ (by decide +kernel)) ggX6_tellLodger_X6_lookOf
set_option maxRecDepth 20000 in
theorem ggX6_tellLodger_X6_upDays : GoodIn wsX6_tellLodger wsX6_upDays := goodIn_r _ [34, 2, 9, 10, 11, 6, 12, 13, 1, 8, 14, 15, 16, 35, 36, 37, 38, 39, 40, 41, 42, 43, 44, 45, 46, 47, 48, 49, 50, 51, 52, 53, 54, 55, 56, 57, 58, 59, 60, 61, 62, 63, 64] (by decide +kernel) (by decide +kernel)
set_option maxRecDepth 20000 in
theorem gX6_tellLodger_X6_upDays : GoodIn wsX6_tellLodger (wsV RX6 152 RX6 yX6_upDays wsX6_upDays) := goodIn_app (goodIn_of _ (by decide +kernel)) ggX6_tellLodger_X6_upDays
theorem dX6_tellLodger_0 : decode cX6_tellLodger 0 = .ok (.iload_n 2, 1) := by decide +kernel
theorem dX6_tellLodger_1 : decode cX6_tellLodger 1 = .ok (.tableswitch 88 0 5 #[39, 46, 52, 70, 76, 82], 39) := by decide +kernel
theorem dX6_tellLodger_40 : decode cX6_tellLodger 40 = .ok (.aload_n 0, 1) := by decide +kernel
theorem dX6_tellLodger_41 : decode cX6_tellLodger 41 = .ok (.getfield 13, 3) := by decide +kernel
theorem dX6_tellLodger_44 : decode cX6_tellLodger 44 = .ok (.iload_n 1, 1) := by decide +kernel
theorem dX6_tellLodger_45 : decode cX6_tellLodger 45 = .ok (.iaload, 1) := by decide +kernel
theorem dX6_tellLodger_46 : decode cX6_tellLodger 46 = .ok (.ireturn, 1) := by decide +kernel
theorem dX6_tellLodger_47 : decode cX6_tellLodger 47 = .ok (.aload_n 0, 1) := by decide +kernel
theorem dX6_tellLodger_48 : decode cX6_tellLodger 48 = .ok (.iload_n 1, 1) := by decide +kernel
theorem dX6_tellLodger_49 : decode cX6_tellLodger 49 = .ok (.invokevirtual 143, 3) := by decide +kernel
theorem dX6_tellLodger_52 : decode cX6_tellLodger 52 = .ok (.ireturn, 1) := by decide +kernel
theorem dX6_tellLodger_53 : decode cX6_tellLodger 53 = .ok (.aload_n 0, 1) := by decide +kernel
theorem dX6_tellLodger_54 : decode cX6_tellLodger 54 = .ok (.iload_n 1, 1) := by decide +kernel
theorem dX6_tellLodger_55 : decode cX6_tellLodger 55 = .ok (.aload_n 0, 1) := by decide +kernel
theorem dX6_tellLodger_56 : decode cX6_tellLodger 56 = .ok (.getfield 109, 3) := by decide +kernel
theorem dX6_tellLodger_59 : decode cX6_tellLodger 59 = .ok (.invokevirtual 139, 3) := by decide +kernel
theorem dX6_tellLodger_62 : decode cX6_tellLodger 62 = .ok (.ifCond .eq 7, 3) := by decide +kernel
theorem dX6_tellLodger_65 : decode cX6_tellLodger 65 = .ok (.iconst 1, 1) := by decide +kernel
theorem dX6_tellLodger_66 : decode cX6_tellLodger 66 = .ok (.goto 4, 3) := by decide +kernel
theorem dX6_tellLodger_69 : decode cX6_tellLodger 69 = .ok (.iconst 0, 1) := by decide +kernel
theorem dX6_tellLodger_70 : decode cX6_tellLodger 70 = .ok (.ireturn, 1) := by decide +kernel
theorem dX6_tellLodger_71 : decode cX6_tellLodger 71 = .ok (.aload_n 0, 1) := by decide +kernel
theorem dX6_tellLodger_72 : decode cX6_tellLodger 72 = .ok (.iload_n 1, 1) := by decide +kernel
theorem dX6_tellLodger_73 : decode cX6_tellLodger 73 = .ok (.invokevirtual 146, 3) := by decide +kernel
theorem dX6_tellLodger_76 : decode cX6_tellLodger 76 = .ok (.ireturn, 1) := by decide +kernel
theorem dX6_tellLodger_77 : decode cX6_tellLodger 77 = .ok (.aload_n 0, 1) := by decide +kernel
theorem dX6_tellLodger_78 : decode cX6_tellLodger 78 = .ok (.iload_n 1, 1) := by decide +kernel
theorem dX6_tellLodger_79 : decode cX6_tellLodger 79 = .ok (.invokevirtual 149, 3) := by decide +kernel
theorem dX6_tellLodger_82 : decode cX6_tellLodger 82 = .ok (.ireturn, 1) := by decide +kernel
theorem dX6_tellLodger_83 : decode cX6_tellLodger 83 = .ok (.aload_n 0, 1) := by decide +kernel
theorem dX6_tellLodger_84 : decode cX6_tellLodger 84 = .ok (.iload_n 1, 1) := by decide +kernel
theorem dX6_tellLodger_85 : decode cX6_tellLodger 85 = .ok (.invokevirtual 152, 3) := by decide +kernel
theorem dX6_tellLodger_88 : decode cX6_tellLodger 88 = .ok (.ireturn, 1) := by decide +kernel
theorem dX6_tellLodger_89 : decode cX6_tellLodger 89 = .ok (.bipush (-102), 2) := by decide +kernel
theorem dX6_tellLodger_91 : decode cX6_tellLodger 91 = .ok (.ireturn, 1) := by decide +kernel
set_option maxRecDepth 20000 in
theorem ggX6_lodger_X6_isLodger : GoodIn wsX6_lodger wsX6_isLodger := goodIn_r _ [5, 6, 7, 8, 9, 4, 10, 11, 12, 13, 14, 52, 53, 54, 55, 56, 57, 58, 59, 60, 61, 62, 63, 64, 65, 66, 67, 68, 69, 70, 71, 72, 73, 74, 75, 76, 77, 78, 79, 80, 81] (by decide +kernel) (by decide +kernel)
set_option maxRecDepth 20000 in
theorem gX6_lodger_X6_isLodger : GoodIn wsX6_lodger (wsV RX6 155 RX6 yX6_isLodger wsX6_isLodger) := goodIn_app (goodIn_of _ (by decide +kernel)) ggX6_lodger_X6_isLodger
set_option maxRecDepth 20000 in
theorem ggX6_lodger_X6_tellLodger : GoodIn wsX6_lodger wsX6_tellLodger := goodIn_r _ [18, 19, 20, 21, 22, 23, 4, 24, 25, 26, 27, 28, 29, 30, 31, 32, 33, 34, 35, 36, 37, 38, 39, 40, 41, 42, 43, 44, 45, 46, 47, 48, 49, 50, 51, 52, 53, 54, 55, 56, 57, 58, 59, 60, 61, 62, 63, 64, 65, 66, 67, 68, 69, 70, 71, 72, 73, 74, 75, 76, 77, 78, 79, 80, 81] (by decide +kernel) (by decide +kernel)
set_option maxRecDepth 20000 in
theorem gX6_lodger_X6_tellLodger : GoodIn wsX6_lodger (wsV RX6 158 RX6 yX6_tellLodger wsX6_tellLodger) := goodIn_app (goodIn_of _ (by decide +kernel)) ggX6_lodger_X6_tellLodger
theorem dX6_lodger_0 : decode cX6_lodger 0 = .ok (.aload_n 0, 1) := by decide +kernel
theorem dX6_lodger_1 : decode cX6_lodger 1 = .ok (.iload_n 1, 1) := by decide +kernel
theorem dX6_lodger_2 : decode cX6_lodger 2 = .ok (.invokevirtual 155, 3) := by decide +kernel
theorem dX6_lodger_5 : decode cX6_lodger 5 = .ok (.ifCond .eq 12, 3) := by decide +kernel
theorem dX6_lodger_8 : decode cX6_lodger 8 = .ok (.aload_n 0, 1) := by decide +kernel
theorem dX6_lodger_9 : decode cX6_lodger 9 = .ok (.iload_n 1, 1) := by decide +kernel
theorem dX6_lodger_10 : decode cX6_lodger 10 = .ok (.iload_n 2, 1) := by decide +kernel
theorem dX6_lodger_11 : decode cX6_lodger 11 = .ok (.invokevirtual 158, 3) := by decide +kernel
theorem dX6_lodger_14 : decode cX6_lodger 14 = .ok (.goto 5, 3) := by decide +kernel
theorem dX6_lodger_17 : decode cX6_lodger 17 = .ok (.bipush (-101), 2) := by decide +kernel
theorem dX6_lodger_19 : decode cX6_lodger 19 = .ok (.ireturn, 1) := by decide +kernel
set_option maxRecDepth 20000 in
theorem ggX6_as_X6_isLodger : GoodIn wsX6_as wsX6_isLodger := goodIn_r _ [7, 8, 9, 10, 11, 6, 12, 13, 14, 15, 16, 17, 18, 19, 20, 21, 22, 23, 24, 25, 26, 27, 28, 29, 30, 31, 32, 33, 34, 35, 36, 37, 38, 39, 40, 41, 42, 43, 44, 45, 46] (by decide +kernel) (by decide +kernel)
set_option maxRecDepth 20000 in
theorem gX6_as_X6_isLodger : GoodIn wsX6_as (wsV RX6 155 RX6 yX6_isLodger wsX6_isLodger) := goodIn_app (goodIn_of _ (by decide +kernel)) ggX6_as_X6_isLodger
set_option maxRecDepth 20000 in
theorem ggX6_as_X6_in : GoodIn wsX6_as wsX6_in := goodIn_r _ [16] (by decide +kernel) (by decide +kernel)
set_option maxRecDepth 20000 in
theorem gX6_as_X6_in : GoodIn wsX6_as (va_wsS RX6 56 yX6_in wsX6_in) := goodIn_app (goodIn_of _ (by decide +kernel)) ggX6_as_X6_in
theorem dX6_as_0 : decode cX6_as 0 = .ok (.aload_n 0, 1) := by decide +kernel
theorem dX6_as_1 : decode cX6_as 1 = .ok (.iload_n 1, 1) := by decide +kernel
theorem dX6_as_2 : decode cX6_as 2 = .ok (.invokevirtual 155, 3) := by decide +kernel
theorem dX6_as_5 : decode cX6_as 5 = .ok (.ifCond .ne 6, 3) := by decide +kernel
theorem dX6_as_8 : decode cX6_as 8 = .ok (.bipush (-101), 2) := by decide +kernel
theorem dX6_as_10 : decode cX6_as 10 = .ok (.ireturn, 1) := by decide +kernel
theorem dX6_as_11 : decode cX6_as 11 = .ok (.iload_n 2, 1) := by decide +kernel
theorem dX6_as_12 : decode cX6_as 12 = .ok (.i2l, 1) := by decide +kernel
theorem dX6_as_13 : decode cX6_as 13 = .ok (.lconst 0, 1) := by decide +kernel
theorem dX6_as_14 : decode cX6_as 14 = .ok (.ldc2_w 162, 3) := by decide +kernel
theorem dX6_as_17 : decode cX6_as 17 = .ok (.invokestatic 56, 3) := by decide +kernel
theorem dX6_as_20 : decode cX6_as 20 = .ok (.ifCond .ne 6, 3) := by decide +kernel
theorem dX6_as_23 : decode cX6_as 23 = .ok (.bipush (-102), 2) := by decide +kernel
theorem dX6_as_25 : decode cX6_as 25 = .ok (.ireturn, 1) := by decide +kernel
theorem dX6_as_26 : decode cX6_as 26 = .ok (.iload_n 2, 1) := by decide +kernel
theorem dX6_as_27 : decode cX6_as 27 = .ok (.ifCond .eq 28, 3) := by decide +kernel
theorem dX6_as_30 : decode cX6_as 30 = .ok (.iload_n 2, 1) := by decide +kernel
theorem dX6_as_31 : decode cX6_as 31 = .ok (.aload_n 0, 1) := by decide +kernel
theorem dX6_as_32 : decode cX6_as 32 = .ok (.getfield 13, 3) := by decide +kernel
theorem dX6_as_35 : decode cX6_as 35 = .ok (.iload_n 1, 1) := by decide +kernel
theorem dX6_as_36 : decode cX6_as 36 = .ok (.iaload, 1) := by decide +kernel
theorem dX6_as_37 : decode cX6_as 37 = .ok (.if_icmp .eq 18, 3) := by decide +kernel
theorem dX6_as_40 : decode cX6_as 40 = .ok (.iload_n 2, 1) := by decide +kernel
theorem dX6_as_41 : decode cX6_as 41 = .ok (.iconst 1, 1) := by decide +kernel
theorem dX6_as_42 : decode cX6_as 42 = .ok (.if_icmp .ne 17, 3) := by decide +kernel
theorem dX6_as_45 : decode cX6_as 45 = .ok (.aload_n 0, 1) := by decide +kernel
theorem dX6_as_46 : decode cX6_as 46 = .ok (.getfield 13, 3) := by decide +kernel
theorem dX6_as_49 : decode cX6_as 49 = .ok (.iload_n 1, 1) := by decide +kernel
theorem dX6_as_50 : decode cX6_as 50 = .ok (.iaload, 1) := by decide +kernel
theorem dX6_as_51 : decode cX6_as 51 = .ok (.iconst 4, 1) := by decide +kernel
theorem dX6_as_52 : decode cX6_as 52 = .ok (.if_icmp .ne 7, 3) := by decide +kernel
theorem dX6_as_55 : decode cX6_as 55 = .ok (.iconst 1, 1) := by decide +kernel
theorem dX6_as_56 : decode cX6_as 56 = .ok (.goto 4, 3) := by decide +kernel
theorem dX6_as_59 : decode cX6_as 59 = .ok (.iconst 0, 1) := by decide +kernel
theorem dX6_as_60 : decode cX6_as 60 = .ok (.istore_n 3, 1) := by decide +kernel
theorem dX6_as_61 : decode cX6_as 61 = .ok (.iload_n 3, 1) := by decide +kernel
theorem dX6_as_62 : decode cX6_as 62 = .ok (.ifCond .eq 7, 3) := by decide +kernel
theorem dX6_as_65 : decode cX6_as 65 = .ok (.iload_n 1, 1) := by decide +kernel
theorem dX6_as_66 : decode cX6_as 66 = .ok (.goto 4, 3) := by decide +kernel
theorem dX6_as_69 : decode cX6_as 69 = .ok (.iconst (-1), 1) := by decide +kernel
theorem dX6_as_70 : decode cX6_as 70 = .ok (.ireturn, 1) := by decide +kernel
set_option maxRecDepth 20000 in
theorem ggX6_maySail_X6_isUp : GoodIn wsX6_maySail wsX6_isUp := goodIn_r _ [8, 9, 10, 11, 12, 13, 7, 14, 24, 25, 26, 27, 28, 29, 30, 31, 32, 33, 34, 35, 36, 37, 38, 39, 40, 41, 42, 43, 44, 45, 46, 47, 48, 49, 50, 51, 52, 53] (by decide +kernel) (by decide +kernel)
set_option maxRecDepth 20000 in
theorem gX6_maySail_X6_isUp : GoodIn wsX6_maySail (wsV RX6 139 RX6 yX6_isUp wsX6_isUp) := goodIn_app (goodIn_of _ (by decide +kernel)) ggX6_maySail_X6_isUp
set_option maxRecDepth 20000 in
theorem ggX6_maySail_X6_leads : GoodIn wsX6_maySail wsX6_leads := goodIn_r _ [18, 19, 20, 21, 22, 7, 23, 24, 25, 26, 27, 28, 29, 30, 31, 32, 33, 34, 35, 36, 37, 38, 39, 40, 41, 42, 43, 44, 45, 46, 47, 48, 49, 50, 51, 52, 53] (by decide +kernel) (by decide +kernel)
set_option maxRecDepth 20000 in
theorem gX6_maySail_X6_leads : GoodIn wsX6_maySail (wsV RX6 164 RX6 yX6_leads wsX6_leads) := goodIn_app (goodIn_of _ (by decide +kernel)) ggX6_maySail_X6_leads
theorem dX6_maySail_0 : decode cX6_maySail 0 = .ok (.iconst 0, 1) := by decide +kernel
theorem dX6_maySail_1 : decode cX6_maySail 1 = .ok (.istore_n 2, 1) := by decide +kernel
theorem dX6_maySail_2 : decode cX6_maySail 2 = .ok (.iconst 0, 1) := by decide +kernel
theorem dX6_maySail_3 : decode cX6_maySail 3 = .ok (.istore_n 3, 1) := by decide +kernel
theorem dX6_maySail_4 : decode cX6_maySail 4 = .ok (.iload_n 3, 1) := by decide +kernel
theorem dX6_maySail_5 : decode cX6_maySail 5 = .ok (.iconst 5, 1) := by decide +kernel
theorem dX6_maySail_6 : decode cX6_maySail 6 = .ok (.if_icmp .ge 55, 3) := by decide +kernel
theorem dX6_maySail_9 : decode cX6_maySail 9 = .ok (.iload_n 2, 1) := by decide +kernel
theorem dX6_maySail_10 : decode cX6_maySail 10 = .ok (.aload_n 0, 1) := by decide +kernel
theorem dX6_maySail_11 : decode cX6_maySail 11 = .ok (.getfield 22, 3) := by decide +kernel
theorem dX6_maySail_14 : decode cX6_maySail 14 = .ok (.iload_n 1, 1) := by decide +kernel
theorem dX6_maySail_15 : decode cX6_maySail 15 = .ok (.iaload, 1) := by decide +kernel
theorem dX6_maySail_16 : decode cX6_maySail 16 = .ok (.ifCond .ne 36, 3) := by decide +kernel
theorem dX6_maySail_19 : decode cX6_maySail 19 = .ok (.aload_n 0, 1) := by decide +kernel
theorem dX6_maySail_20 : decode cX6_maySail 20 = .ok (.iload_n 3, 1) := by decide +kernel
theorem dX6_maySail_21 : decode cX6_maySail 21 = .ok (.aload_n 0, 1) := by decide +kernel
theorem dX6_maySail_22 : decode cX6_maySail 22 = .ok (.getfield 109, 3) := by decide +kernel
theorem dX6_maySail_25 : decode cX6_maySail 25 = .ok (.invokevirtual 139, 3) := by decide +kernel
theorem dX6_maySail_28 : decode cX6_maySail 28 = .ok (.ifCond .eq 24, 3) := by decide +kernel
theorem dX6_maySail_31 : decode cX6_maySail 31 = .ok (.aload_n 0, 1) := by decide +kernel
theorem dX6_maySail_32 : decode cX6_maySail 32 = .ok (.aload_n 0, 1) := by decide +kernel
theorem dX6_maySail_33 : decode cX6_maySail 33 = .ok (.getfield 19, 3) := by decide +kernel
theorem dX6_maySail_36 : decode cX6_maySail 36 = .ok (.iload_n 1, 1) := by decide +kernel
theorem dX6_maySail_37 : decode cX6_maySail 37 = .ok (.iaload, 1) := by decide +kernel
theorem dX6_maySail_38 : decode cX6_maySail 38 = .ok (.iload_n 3, 1) := by decide +kernel
theorem dX6_maySail_39 : decode cX6_maySail 39 = .ok (.invokevirtual 164, 3) := by decide +kernel
theorem dX6_maySail_42 : decode cX6_maySail 42 = .ok (.iconst (-1), 1) := by decide +kernel
theorem dX6_maySail_43 : decode cX6_maySail 43 = .ok (.if_icmp .eq 9, 3) := by decide +kernel
theorem dX6_maySail_46 : decode cX6_maySail 46 = .ok (.iconst 1, 1) := by decide +kernel
theorem dX6_maySail_47 : decode cX6_maySail 47 = .ok (.iload_n 3, 1) := by decide +kernel
theorem dX6_maySail_48 : decode cX6_maySail 48 = .ok (.ishl, 1) := by decide +kernel
theorem dX6_maySail_49 : decode cX6_maySail 49 = .ok (.goto 4, 3) := by decide +kernel
theorem dX6_maySail_52 : decode cX6_maySail 52 = .ok (.iconst 0, 1) := by decide +kernel
theorem dX6_maySail_53 : decode cX6_maySail 53 = .ok (.ior, 1) := by decide +kernel
theorem dX6_maySail_54 : decode cX6_maySail 54 = .ok (.istore_n 2, 1) := by decide +kernel
theorem dX6_maySail_55 : decode cX6_maySail 55 = .ok (.iinc 3 1, 3) := by decide +kernel
theorem dX6_maySail_58 : decode cX6_maySail 58 = .ok (.goto (-54), 3) := by decide +kernel
theorem dX6_maySail_61 : decode cX6_maySail 61 = .ok (.iload_n 2, 1) := by decide +kernel
theorem dX6_maySail_62 : decode cX6_maySail 62 = .ok (.ireturn, 1) := by decide +kernel
set_option maxRecDepth 20000 in
theorem ggX6_tellShip_X6_maySail : GoodIn wsX6_tellShip wsX6_maySail := goodIn_r _ [7, 2, 8, 1, 9, 10, 11, 6, 12, 13, 14, 15, 16, 17, 18, 19, 20, 21, 22, 23, 24, 25, 26, 27, 28, 29, 30, 31, 32, 33, 34, 35, 36, 37, 38, 39, 40, 41, 42, 43, 44, 45, 46, 47, 48, 49, 50, 51, 52, 53, 54, 55, 56, 57] (by decide +kernel) (by decide +kernel)
set_option maxRecDepth 20000 in
theorem gX6_tellShip_X6_maySail : GoodIn wsX6_tellShip (wsV RX6 167 RX6 yX6_maySail wsX6_maySail) := goodIn_app (goodIn_of _ (by decide +kernel)) ggX6_tellShip_X6_maySail
theorem dX6_tellShip_0 : decode cX6_tellShip 0 = .ok (.iload_n 2, 1) := by decide +kernel
theorem dX6_tellShip_1 : decode cX6_tellShip 1 = .ok (.tableswitch 47 0 2 #[27, 34, 41], 27) := by decide +kernel
theorem dX6_tellShip_28 : decode cX6_tellShip 28 = .ok (.aload_n 0, 1) := by decide +kernel
theorem dX6_tellShip_29 : decode cX6_tellShip 29 = .ok (.getfield 19, 3) := by decide +kernel
theorem dX6_tellShip_32 : decode cX6_tellShip 32 = .ok (.iload_n 1, 1) := by decide +kernel
theorem dX6_tellShip_33 : decode cX6_tellShip 33 = .ok (.iaload, 1) := by decide +kernel
theorem dX6_tellShip_34 : decode cX6_tellShip 34 = .ok (.ireturn, 1) := by decide +kernel
theorem dX6_tellShip_35 : decode cX6_tellShip 35 = .ok (.aload_n 0, 1) := by decide +kernel
theorem dX6_tellShip_36 : decode cX6_tellShip 36 = .ok (.getfield 22, 3) := by decide +kernel
theorem dX6_tellShip_39 : decode cX6_tellShip 39 = .ok (.iload_n 1, 1) := by decide +kernel
theorem dX6_tellShip_40 : decode cX6_tellShip 40 = .ok (.iaload, 1) := by decide +kernel
theorem dX6_tellShip_41 : decode cX6_tellShip 41 = .ok (.ireturn, 1) := by decide +kernel
theorem dX6_tellShip_42 : decode cX6_tellShip 42 = .ok (.aload_n 0, 1) := by decide +kernel
theorem dX6_tellShip_43 : decode cX6_tellShip 43 = .ok (.iload_n 1, 1) := by decide +kernel
theorem dX6_tellShip_44 : decode cX6_tellShip 44 = .ok (.invokevirtual 167, 3) := by decide +kernel
theorem dX6_tellShip_47 : decode cX6_tellShip 47 = .ok (.ireturn, 1) := by decide +kernel
theorem dX6_tellShip_48 : decode cX6_tellShip 48 = .ok (.bipush (-102), 2) := by decide +kernel
theorem dX6_tellShip_50 : decode cX6_tellShip 50 = .ok (.ireturn, 1) := by decide +kernel
set_option maxRecDepth 20000 in
theorem ggX6_ship_X6_isShip : GoodIn wsX6_ship wsX6_isShip := goodIn_r _ [5, 6, 7, 8, 4, 9, 37, 38, 39, 40, 41, 42, 43, 44, 45, 46, 47, 48, 49, 50, 51, 52, 53, 54, 55, 56, 57, 58, 59, 60, 61, 62, 63, 64, 65, 66] (by decide +kernel) (by decide +kernel)
set_option maxRecDepth 20000 in
theorem gX6_ship_X6_isShip : GoodIn wsX6_ship (wsV RX6 170 RX6 yX6_isShip wsX6_isShip) := goodIn_app (goodIn_of _ (by decide +kernel)) ggX6_ship_X6_isShip
set_option maxRecDepth 20000 in
theorem ggX6_ship_X6_tellShip : GoodIn wsX6_ship wsX6_tellShip := goodIn_r _ [13, 14, 15, 16, 17, 18, 4, 19, 20, 21, 22, 23, 24, 25, 26, 27, 28, 29, 30, 31, 32, 33, 34, 35, 36, 7, 8, 9, 37, 38, 39, 40, 41, 42, 43, 44, 45, 46, 47, 48, 49, 50, 51, 52, 53, 54, 55, 56, 57, 58, 59, 60, 61, 62, 63, 64, 65, 66] (by decide +kernel) (by decide +kernel)
set_option maxRecDepth 20000 in
theorem gX6_ship_X6_tellShip : GoodIn wsX6_ship (wsV RX6 173 RX6 yX6_tellShip wsX6_tellShip) := goodIn_app (goodIn_of _ (by decide +kernel)) ggX6_ship_X6_tellShip
theorem dX6_ship_0 : decode cX6_ship 0 = .ok (.aload_n 0, 1) := by decide +kernel
theorem dX6_ship_1 : decode cX6_ship 1 = .ok (.iload_n 1, 1) := by decide +kernel
theorem dX6_ship_2 : decode cX6_ship 2 = .ok (.invokevirtual 170, 3) := by decide +kernel
theorem dX6_ship_5 : decode cX6_ship 5 = .ok (.ifCond .eq 12, 3) := by decide +kernel
theorem dX6_ship_8 : decode cX6_ship 8 = .ok (.aload_n 0, 1) := by decide +kernel
theorem dX6_ship_9 : decode cX6_ship 9 = .ok (.iload_n 1, 1) := by decide +kernel
theorem dX6_ship_10 : decode cX6_ship 10 = .ok (.iload_n 2, 1) := by decide +kernel
theorem dX6_ship_11 : decode cX6_ship 11 = .ok (.invokevirtual 173, 3) := by decide +kernel
theorem dX6_ship_14 : decode cX6_ship 14 = .ok (.goto 5, 3) := by decide +kernel
theorem dX6_ship_17 : decode cX6_ship 17 = .ok (.bipush (-101), 2) := by decide +kernel
theorem dX6_ship_19 : decode cX6_ship 19 = .ok (.ireturn, 1) := by decide +kernel
theorem dX6_shipsAt_0 : decode cX6_shipsAt 0 = .ok (.iconst 0, 1) := by decide +kernel
theorem dX6_shipsAt_1 : decode cX6_shipsAt 1 = .ok (.istore_n 2, 1) := by decide +kernel
theorem dX6_shipsAt_2 : decode cX6_shipsAt 2 = .ok (.iconst 0, 1) := by decide +kernel
theorem dX6_shipsAt_3 : decode cX6_shipsAt 3 = .ok (.istore_n 3, 1) := by decide +kernel
theorem dX6_shipsAt_4 : decode cX6_shipsAt 4 = .ok (.iload_n 3, 1) := by decide +kernel
theorem dX6_shipsAt_5 : decode cX6_shipsAt 5 = .ok (.aload_n 0, 1) := by decide +kernel
theorem dX6_shipsAt_6 : decode cX6_shipsAt 6 = .ok (.getfield 99, 3) := by decide +kernel
theorem dX6_shipsAt_9 : decode cX6_shipsAt 9 = .ok (.if_icmp .ge 29, 3) := by decide +kernel
theorem dX6_shipsAt_12 : decode cX6_shipsAt 12 = .ok (.iload_n 2, 1) := by decide +kernel
theorem dX6_shipsAt_13 : decode cX6_shipsAt 13 = .ok (.aload_n 0, 1) := by decide +kernel
theorem dX6_shipsAt_14 : decode cX6_shipsAt 14 = .ok (.getfield 19, 3) := by decide +kernel
theorem dX6_shipsAt_17 : decode cX6_shipsAt 17 = .ok (.iload_n 3, 1) := by decide +kernel
theorem dX6_shipsAt_18 : decode cX6_shipsAt 18 = .ok (.iaload, 1) := by decide +kernel
theorem dX6_shipsAt_19 : decode cX6_shipsAt 19 = .ok (.iload_n 1, 1) := by decide +kernel
theorem dX6_shipsAt_20 : decode cX6_shipsAt 20 = .ok (.if_icmp .ne 9, 3) := by decide +kernel
theorem dX6_shipsAt_23 : decode cX6_shipsAt 23 = .ok (.iconst 1, 1) := by decide +kernel
theorem dX6_shipsAt_24 : decode cX6_shipsAt 24 = .ok (.iload_n 3, 1) := by decide +kernel
theorem dX6_shipsAt_25 : decode cX6_shipsAt 25 = .ok (.ishl, 1) := by decide +kernel
theorem dX6_shipsAt_26 : decode cX6_shipsAt 26 = .ok (.goto 4, 3) := by decide +kernel
theorem dX6_shipsAt_29 : decode cX6_shipsAt 29 = .ok (.iconst 0, 1) := by decide +kernel
theorem dX6_shipsAt_30 : decode cX6_shipsAt 30 = .ok (.ior, 1) := by decide +kernel
theorem dX6_shipsAt_31 : decode cX6_shipsAt 31 = .ok (.istore_n 2, 1) := by decide +kernel
theorem dX6_shipsAt_32 : decode cX6_shipsAt 32 = .ok (.iinc 3 1, 3) := by decide +kernel
theorem dX6_shipsAt_35 : decode cX6_shipsAt 35 = .ok (.goto (-31), 3) := by decide +kernel
theorem dX6_shipsAt_38 : decode cX6_shipsAt 38 = .ok (.iload_n 2, 1) := by decide +kernel
theorem dX6_shipsAt_39 : decode cX6_shipsAt 39 = .ok (.ireturn, 1) := by decide +kernel
set_option maxRecDepth 20000 in
theorem ggX6_cell_X6_isCell : GoodIn wsX6_cell wsX6_isCell := goodIn_r _ [6, 7, 8, 9, 10, 5, 11, 12, 13, 14, 15, 21, 22, 23, 24, 25, 26, 27, 28, 29, 30, 31, 32, 33, 34, 35, 36, 37, 38, 39, 40, 41, 42, 43, 44, 45, 46, 47, 48, 49, 50] (by decide +kernel) (by decide +kernel)
set_option maxRecDepth 20000 in
theorem gX6_cell_X6_isCell : GoodIn wsX6_cell (wsV RX6 176 RX6 yX6_isCell wsX6_isCell) := goodIn_app (goodIn_of _ (by decide +kernel)) ggX6_cell_X6_isCell
set_option maxRecDepth 20000 in
theorem ggX6_cell_X6_in : GoodIn wsX6_cell wsX6_in := goodIn_r _ [15] (by decide +kernel) (by decide +kernel)
set_option maxRecDepth 20000 in
theorem gX6_cell_X6_in : GoodIn wsX6_cell (va_wsS RX6 56 yX6_in wsX6_in) := goodIn_app (goodIn_of _ (by decide +kernel)) ggX6_cell_X6_in
set_option maxRecDepth 20000 in
theorem ggX6_cell_X6_shipsAt : GoodIn wsX6_cell wsX6_shipsAt := goodIn_r _ [19, 12, 20, 21, 22, 23, 24, 25, 26, 27, 28, 29, 30, 31, 32, 33, 34, 35, 36, 37, 38, 39, 40, 41, 42, 43, 44, 45, 46, 47, 48, 49, 50] (by decide +kernel) (by decide +kernel)
set_option maxRecDepth 20000 in
theorem gX6_cell_X6_shipsAt : GoodIn wsX6_cell (wsV RX6 179 RX6 yX6_shipsAt wsX6_shipsAt) := goodIn_app (goodIn_of _ (by decide +kernel)) ggX6_cell_X6_shipsAt
theorem dX6_cell_0 : decode cX6_cell 0 = .ok (.aload_n 0, 1) := by decide +kernel
theorem dX6_cell_1 : decode cX6_cell 1 = .ok (.iload_n 1, 1) := by decide +kernel
theorem dX6_cell_2 : decode cX6_cell 2 = .ok (.invokevirtual 176, 3) := by decide +kernel
theorem dX6_cell_5 : decode cX6_cell 5 = .ok (.ifCond .ne 6, 3) := by decide +kernel
theorem dX6_cell_8 : decode cX6_cell 8 = .ok (.bipush (-101), 2) := by decide +kernel
theorem dX6_cell_10 : decode cX6_cell 10 = .ok (.ireturn, 1) := by decide +kernel
theorem dX6_cell_11 : decode cX6_cell 11 = .ok (.iload_n 2, 1) := by decide +kernel
theorem dX6_cell_12 : decode cX6_cell 12 = .ok (.i2l, 1) := by decide +kernel
theorem dX6_cell_13 : decode cX6_cell 13 = .ok (.lconst 0, 1) := by decide +kernel
theorem dX6_cell_14 : decode cX6_cell 14 = .ok (.lconst 1, 1) := by decide +kernel
theorem dX6_cell_15 : decode cX6_cell 15 = .ok (.invokestatic 56, 3) := by decide +kernel
theorem dX6_cell_18 : decode cX6_cell 18 = .ok (.ifCond .ne 6, 3) := by decide +kernel
theorem dX6_cell_21 : decode cX6_cell 21 = .ok (.bipush (-102), 2) := by decide +kernel
theorem dX6_cell_23 : decode cX6_cell 23 = .ok (.ireturn, 1) := by decide +kernel
theorem dX6_cell_24 : decode cX6_cell 24 = .ok (.iload_n 2, 1) := by decide +kernel
theorem dX6_cell_25 : decode cX6_cell 25 = .ok (.ifCond .ne 15, 3) := by decide +kernel
theorem dX6_cell_28 : decode cX6_cell 28 = .ok (.aload_n 0, 1) := by decide +kernel
theorem dX6_cell_29 : decode cX6_cell 29 = .ok (.getfield 105, 3) := by decide +kernel
theorem dX6_cell_32 : decode cX6_cell 32 = .ok (.iload_n 1, 1) := by decide +kernel
theorem dX6_cell_33 : decode cX6_cell 33 = .ok (.lshr, 1) := by decide +kernel
theorem dX6_cell_34 : decode cX6_cell 34 = .ok (.lconst 1, 1) := by decide +kernel
theorem dX6_cell_35 : decode cX6_cell 35 = .ok (.land, 1) := by decide +kernel
theorem dX6_cell_36 : decode cX6_cell 36 = .ok (.l2i, 1) := by decide +kernel
theorem dX6_cell_37 : decode cX6_cell 37 = .ok (.goto 8, 3) := by decide +kernel
theorem dX6_cell_40 : decode cX6_cell 40 = .ok (.aload_n 0, 1) := by decide +kernel
theorem dX6_cell_41 : decode cX6_cell 41 = .ok (.iload_n 1, 1) := by decide +kernel
theorem dX6_cell_42 : decode cX6_cell 42 = .ok (.invokevirtual 179, 3) := by decide +kernel
theorem dX6_cell_45 : decode cX6_cell 45 = .ok (.ireturn, 1) := by decide +kernel
set_option maxRecDepth 20000 in
theorem ggX6_sail_X6_isShip : GoodIn wsX6_sail wsX6_isShip := goodIn_r _ [9, 10, 11, 12, 8, 13, 35, 36, 37, 38, 39, 40, 41, 42, 43, 44, 45, 46, 47, 48, 49, 50, 51, 52, 53, 54, 55, 56, 57, 58, 59, 60, 61, 62, 63, 64] (by decide +kernel) (by decide +kernel)
set_option maxRecDepth 20000 in
theorem gX6_sail_X6_isShip : GoodIn wsX6_sail (wsV RX6 170 RX6 yX6_isShip wsX6_isShip) := goodIn_app (goodIn_of _ (by decide +kernel)) ggX6_sail_X6_isShip
set_option maxRecDepth 20000 in
theorem ggX6_sail_X6_in : GoodIn wsX6_sail wsX6_in := goodIn_r _ [13] (by decide +kernel) (by decide +kernel)
set_option maxRecDepth 20000 in
theorem gX6_sail_X6_in : GoodIn wsX6_sail (va_wsS RX6 56 yX6_in wsX6_in) := goodIn_app (goodIn_of _ (by decide +kernel)) ggX6_sail_X6_in
set_option maxRecDepth 20000 in
theorem ggX6_sail_X6_maySail : GoodIn wsX6_sail wsX6_maySail := goodIn_r _ [17, 4, 18, 3, 19, 20, 21, 8, 22, 23, 24, 25, 26, 27, 28, 29, 30, 31, 32, 33, 34, 11, 12, 13, 35, 36, 37, 38, 39, 40, 41, 42, 43, 44, 45, 46, 47, 48, 49, 50, 51, 52, 53, 54, 55, 56, 57, 58, 59, 60, 61, 62, 63, 64] (by decide +kernel) (by decide +kernel)
set_option maxRecDepth 20000 in
theorem gX6_sail_X6_maySail : GoodIn wsX6_sail (wsV RX6 167 RX6 yX6_maySail wsX6_maySail) := goodIn_app (goodIn_of _ (by decide +kernel)) ggX6_sail_X6_maySail
set_option maxRecDepth 20000 in
theorem ggX6_sail_X6_leads : GoodIn wsX6_sail wsX6_leads := goodIn_r _ [32, 33, 34, 11, 12, 8, 13, 35, 36, 37, 38, 39, 40, 41, 42, 43, 44, 45, 46, 47, 48, 49, 50, 51, 52, 53, 54, 55, 56, 57, 58, 59, 60, 61, 62, 63, 64] (by decide +kernel) (by decide +kernel)
set_option maxRecDepth 20000 in
theorem gX6_sail_X6_leads : GoodIn wsX6_sail (wsV RX6 164 RX6 yX6_leads wsX6_leads) := goodIn_app (goodIn_of _ (by decide +kernel)) ggX6_sail_X6_leads
theorem dX6_sail_0 : decode cX6_sail 0 = .ok (.aload_n 0, 1) := by decide +kernel
theorem dX6_sail_1 : decode cX6_sail 1 = .ok (.iload_n 1, 1) := by decide +kernel
theorem dX6_sail_2 : decode cX6_sail 2 = .ok (.invokevirtual 170, 3) := by decide +kernel
theorem dX6_sail_5 : decode cX6_sail 5 = .ok (.ifCond .eq 15, 3) := by decide +kernel
theorem dX6_sail_8 : decode cX6_sail 8 = .ok (.iload_n 2, 1) := by decide +kernel
theorem dX6_sail_9 : decode cX6_sail 9 = .ok (.i2l, 1) := by decide +kernel
theorem dX6_sail_10 : decode cX6_sail 10 = .ok (.lconst 0, 1) := by decide +kernel
theorem dX6_sail_11 : decode cX6_sail 11 = .ok (.ldc2_w 162, 3) := by decide +kernel
theorem dX6_sail_14 : decode cX6_sail 14 = .ok (.invokestatic 56, 3) := by decide +kernel
theorem dX6_sail_17 : decode cX6_sail 17 = .ok (.ifCond .ne 6, 3) := by decide +kernel
theorem dX6_sail_20 : decode cX6_sail 20 = .ok (.bipush (-101), 2) := by decide +kernel
theorem dX6_sail_22 : decode cX6_sail 22 = .ok (.ireturn, 1) := by decide +kernel
theorem dX6_sail_23 : decode cX6_sail 23 = .ok (.aload_n 0, 1) := by decide +kernel
theorem dX6_sail_24 : decode cX6_sail 24 = .ok (.iload_n 1, 1) := by decide +kernel
theorem dX6_sail_25 : decode cX6_sail 25 = .ok (.invokevirtual 167, 3) := by decide +kernel
theorem dX6_sail_28 : decode cX6_sail 28 = .ok (.iload_n 2, 1) := by decide +kernel
theorem dX6_sail_29 : decode cX6_sail 29 = .ok (.ishr, 1) := by decide +kernel
theorem dX6_sail_30 : decode cX6_sail 30 = .ok (.iconst 1, 1) := by decide +kernel
theorem dX6_sail_31 : decode cX6_sail 31 = .ok (.iand, 1) := by decide +kernel
theorem dX6_sail_32 : decode cX6_sail 32 = .ok (.ifCond .ne 6, 3) := by decide +kernel
theorem dX6_sail_35 : decode cX6_sail 35 = .ok (.bipush (-103), 2) := by decide +kernel
theorem dX6_sail_37 : decode cX6_sail 37 = .ok (.ireturn, 1) := by decide +kernel
theorem dX6_sail_38 : decode cX6_sail 38 = .ok (.aload_n 0, 1) := by decide +kernel
theorem dX6_sail_39 : decode cX6_sail 39 = .ok (.getfield 116, 3) := by decide +kernel
theorem dX6_sail_42 : decode cX6_sail 42 = .ok (.sipush 999, 3) := by decide +kernel
theorem dX6_sail_45 : decode cX6_sail 45 = .ok (.if_icmp .ne 6, 3) := by decide +kernel
theorem dX6_sail_48 : decode cX6_sail 48 = .ok (.bipush (-104), 2) := by decide +kernel
theorem dX6_sail_50 : decode cX6_sail 50 = .ok (.ireturn, 1) := by decide +kernel
theorem dX6_sail_51 : decode cX6_sail 51 = .ok (.aload_n 0, 1) := by decide +kernel
theorem dX6_sail_52 : decode cX6_sail 52 = .ok (.getfield 19, 3) := by decide +kernel
theorem dX6_sail_55 : decode cX6_sail 55 = .ok (.iload_n 1, 1) := by decide +kernel
theorem dX6_sail_56 : decode cX6_sail 56 = .ok (.aload_n 0, 1) := by decide +kernel
theorem dX6_sail_57 : decode cX6_sail 57 = .ok (.aload_n 0, 1) := by decide +kernel
theorem dX6_sail_58 : decode cX6_sail 58 = .ok (.getfield 19, 3) := by decide +kernel
theorem dX6_sail_61 : decode cX6_sail 61 = .ok (.iload_n 1, 1) := by decide +kernel
theorem dX6_sail_62 : decode cX6_sail 62 = .ok (.iaload, 1) := by decide +kernel
theorem dX6_sail_63 : decode cX6_sail 63 = .ok (.iload_n 2, 1) := by decide +kernel
theorem dX6_sail_64 : decode cX6_sail 64 = .ok (.invokevirtual 164, 3) := by decide +kernel
theorem dX6_sail_67 : decode cX6_sail 67 = .ok (.iastore, 1) := by decide +kernel
theorem dX6_sail_68 : decode cX6_sail 68 = .ok (.aload_n 0, 1) := by decide +kernel
theorem dX6_sail_69 : decode cX6_sail 69 = .ok (.getfield 22, 3) := by decide +kernel
theorem dX6_sail_72 : decode cX6_sail 72 = .ok (.iload_n 1, 1) := by decide +kernel
theorem dX6_sail_73 : decode cX6_sail 73 = .ok (.iconst 1, 1) := by decide +kernel
theorem dX6_sail_74 : decode cX6_sail 74 = .ok (.iastore, 1) := by decide +kernel
theorem dX6_sail_75 : decode cX6_sail 75 = .ok (.aload_n 0, 1) := by decide +kernel
theorem dX6_sail_76 : decode cX6_sail 76 = .ok (.dup, 1) := by decide +kernel
theorem dX6_sail_77 : decode cX6_sail 77 = .ok (.getfield 116, 3) := by decide +kernel
theorem dX6_sail_80 : decode cX6_sail 80 = .ok (.iconst 1, 1) := by decide +kernel
theorem dX6_sail_81 : decode cX6_sail 81 = .ok (.iadd, 1) := by decide +kernel
theorem dX6_sail_82 : decode cX6_sail 82 = .ok (.putfield 116, 3) := by decide +kernel
theorem dX6_sail_85 : decode cX6_sail 85 = .ok (.aload_n 0, 1) := by decide +kernel
theorem dX6_sail_86 : decode cX6_sail 86 = .ok (.getfield 19, 3) := by decide +kernel
theorem dX6_sail_89 : decode cX6_sail 89 = .ok (.iload_n 1, 1) := by decide +kernel
theorem dX6_sail_90 : decode cX6_sail 90 = .ok (.iaload, 1) := by decide +kernel
theorem dX6_sail_91 : decode cX6_sail 91 = .ok (.ireturn, 1) := by decide +kernel
set_option maxRecDepth 20000 in
theorem ggX6_day_X6_lacks : GoodIn wsX6_day wsX6_lacks := goodIn_r _ [7, 8, 9, 10, 11, 12, 13, 14, 15, 16, 17, 18, 19, 20, 21, 22, 23, 24, 25, 26, 27, 28, 29, 30, 31, 32, 33, 34, 35, 36, 37, 38] (by decide +kernel) (by decide +kernel)
set_option maxRecDepth 20000 in
theorem gX6_day_X6_lacks : GoodIn wsX6_day (wsV RX6 125 RX6 yX6_lacks wsX6_lacks) := goodIn_app (goodIn_of _ (by decide +kernel)) ggX6_day_X6_lacks
theorem dX6_day_0 : decode cX6_day 0 = .ok (.aload_n 0, 1) := by decide +kernel
theorem dX6_day_1 : decode cX6_day 1 = .ok (.invokevirtual 125, 3) := by decide +kernel
theorem dX6_day_4 : decode cX6_day 4 = .ok (.ifCond .eq 6, 3) := by decide +kernel
theorem dX6_day_7 : decode cX6_day 7 = .ok (.bipush (-103), 2) := by decide +kernel
theorem dX6_day_9 : decode cX6_day 9 = .ok (.ireturn, 1) := by decide +kernel
theorem dX6_day_10 : decode cX6_day 10 = .ok (.aload_n 0, 1) := by decide +kernel
theorem dX6_day_11 : decode cX6_day 11 = .ok (.getfield 109, 3) := by decide +kernel
theorem dX6_day_14 : decode cX6_day 14 = .ok (.sipush 999, 3) := by decide +kernel
theorem dX6_day_17 : decode cX6_day 17 = .ok (.if_icmp .ne 6, 3) := by decide +kernel
theorem dX6_day_20 : decode cX6_day 20 = .ok (.bipush (-104), 2) := by decide +kernel
theorem dX6_day_22 : decode cX6_day 22 = .ok (.ireturn, 1) := by decide +kernel
theorem dX6_day_23 : decode cX6_day 23 = .ok (.aload_n 0, 1) := by decide +kernel
theorem dX6_day_24 : decode cX6_day 24 = .ok (.dup, 1) := by decide +kernel
theorem dX6_day_25 : decode cX6_day 25 = .ok (.getfield 109, 3) := by decide +kernel
theorem dX6_day_28 : decode cX6_day 28 = .ok (.iconst 1, 1) := by decide +kernel
theorem dX6_day_29 : decode cX6_day 29 = .ok (.iadd, 1) := by decide +kernel
theorem dX6_day_30 : decode cX6_day 30 = .ok (.putfield 109, 3) := by decide +kernel
theorem dX6_day_33 : decode cX6_day 33 = .ok (.aload_n 0, 1) := by decide +kernel
theorem dX6_day_34 : decode cX6_day 34 = .ok (.getfield 22, 3) := by decide +kernel
theorem dX6_day_37 : decode cX6_day 37 = .ok (.iconst 0, 1) := by decide +kernel
theorem dX6_day_38 : decode cX6_day 38 = .ok (.iconst 0, 1) := by decide +kernel
theorem dX6_day_39 : decode cX6_day 39 = .ok (.iastore, 1) := by decide +kernel
theorem dX6_day_40 : decode cX6_day 40 = .ok (.aload_n 0, 1) := by decide +kernel
theorem dX6_day_41 : decode cX6_day 41 = .ok (.getfield 22, 3) := by decide +kernel
theorem dX6_day_44 : decode cX6_day 44 = .ok (.iconst 1, 1) := by decide +kernel
theorem dX6_day_45 : decode cX6_day 45 = .ok (.iconst 0, 1) := by decide +kernel
theorem dX6_day_46 : decode cX6_day 46 = .ok (.iastore, 1) := by decide +kernel
theorem dX6_day_47 : decode cX6_day 47 = .ok (.aload_n 0, 1) := by decide +kernel
theorem dX6_day_48 : decode cX6_day 48 = .ok (.getfield 22, 3) := by decide +kernel
theorem dX6_day_51 : decode cX6_day 51 = .ok (.iconst 2, 1) := by decide +kernel
theorem dX6_day_52 : decode cX6_day 52 = .ok (.iconst 0, 1) := by decide +kernel
theorem dX6_day_53 : decode cX6_day 53 = .ok (.iastore, 1) := by decide +kernel
theorem dX6_day_54 : decode cX6_day 54 = .ok (.aload_n 0, 1) := by decide +kernel
theorem dX6_day_55 : decode cX6_day 55 = .ok (.getfield 109, 3) := by decide +kernel
theorem dX6_day_58 : decode cX6_day 58 = .ok (.ireturn, 1) := by decide +kernel
set_option maxRecDepth 20000 in
theorem ggX6_ail_X6_isLodger : GoodIn wsX6_ail wsX6_isLodger := goodIn_r _ [8, 9, 10, 11, 12, 7, 13, 14, 15, 16, 17, 22, 23, 24, 25, 26, 27, 28, 29, 30, 31, 32, 33, 34, 35, 36, 37, 38, 39, 40, 41, 42, 43, 44, 45, 46, 47, 48, 49, 50, 51] (by decide +kernel) (by decide +kernel)
set_option maxRecDepth 20000 in
theorem gX6_ail_X6_isLodger : GoodIn wsX6_ail (wsV RX6 155 RX6 yX6_isLodger wsX6_isLodger) := goodIn_app (goodIn_of _ (by decide +kernel)) ggX6_ail_X6_isLodger
set_option maxRecDepth 20000 in
theorem ggX6_ail_X6_in : GoodIn wsX6_ail wsX6_in := goodIn_r _ [17] (by decide +kernel) (by decide +kernel)
set_option maxRecDepth 20000 in
theorem gX6_ail_X6_in : GoodIn wsX6_ail (va_wsS RX6 56 yX6_in wsX6_in) := goodIn_app (goodIn_of _ (by decide +kernel)) ggX6_ail_X6_in
set_option maxRecDepth 20000 in
theorem ggX6_ail_X6_illFor : GoodIn wsX6_ail wsX6_illFor := goodIn_r _ [21, 2, 3, 22, 23, 24, 25, 26, 27, 28, 29, 30, 31, 32, 33, 34, 35, 36, 37, 38, 39, 40, 41, 42, 43, 44, 45, 46, 47, 48, 49, 50, 51] (by decide +kernel) (by decide +kernel)
set_option maxRecDepth 20000 in
theorem gX6_ail_X6_illFor : GoodIn wsX6_ail (wsV RX6 143 RX6 yX6_illFor wsX6_illFor) := goodIn_app (goodIn_of _ (by decide +kernel)) ggX6_ail_X6_illFor
theorem dX6_ail_0 : decode cX6_ail 0 = .ok (.aload_n 0, 1) := by decide +kernel
theorem dX6_ail_1 : decode cX6_ail 1 = .ok (.iload_n 1, 1) := by decide +kernel
theorem dX6_ail_2 : decode cX6_ail 2 = .ok (.invokevirtual 155, 3) := by decide +kernel
theorem dX6_ail_5 : decode cX6_ail 5 = .ok (.ifCond .ne 6, 3) := by decide +kernel
theorem dX6_ail_8 : decode cX6_ail 8 = .ok (.bipush (-101), 2) := by decide +kernel
theorem dX6_ail_10 : decode cX6_ail 10 = .ok (.ireturn, 1) := by decide +kernel
theorem dX6_ail_11 : decode cX6_ail 11 = .ok (.iload_n 2, 1) := by decide +kernel
theorem dX6_ail_12 : decode cX6_ail 12 = .ok (.i2l, 1) := by decide +kernel
theorem dX6_ail_13 : decode cX6_ail 13 = .ok (.lconst 0, 1) := by decide +kernel
theorem dX6_ail_14 : decode cX6_ail 14 = .ok (.ldc2_w 182, 3) := by decide +kernel
theorem dX6_ail_17 : decode cX6_ail 17 = .ok (.invokestatic 56, 3) := by decide +kernel
theorem dX6_ail_20 : decode cX6_ail 20 = .ok (.ifCond .ne 6, 3) := by decide +kernel
theorem dX6_ail_23 : decode cX6_ail 23 = .ok (.bipush (-102), 2) := by decide +kernel
theorem dX6_ail_25 : decode cX6_ail 25 = .ok (.ireturn, 1) := by decide +kernel
theorem dX6_ail_26 : decode cX6_ail 26 = .ok (.aload_n 0, 1) := by decide +kernel
theorem dX6_ail_27 : decode cX6_ail 27 = .ok (.iload_n 1, 1) := by decide +kernel
theorem dX6_ail_28 : decode cX6_ail 28 = .ok (.invokevirtual 143, 3) := by decide +kernel
theorem dX6_ail_31 : decode cX6_ail 31 = .ok (.istore_n 3, 1) := by decide +kernel
theorem dX6_ail_32 : decode cX6_ail 32 = .ok (.aload_n 0, 1) := by decide +kernel
theorem dX6_ail_33 : decode cX6_ail 33 = .ok (.getfield 16, 3) := by decide +kernel
theorem dX6_ail_36 : decode cX6_ail 36 = .ok (.iload_n 1, 1) := by decide +kernel
theorem dX6_ail_37 : decode cX6_ail 37 = .ok (.aload_n 0, 1) := by decide +kernel
theorem dX6_ail_38 : decode cX6_ail 38 = .ok (.getfield 109, 3) := by decide +kernel
theorem dX6_ail_41 : decode cX6_ail 41 = .ok (.iload_n 2, 1) := by decide +kernel
theorem dX6_ail_42 : decode cX6_ail 42 = .ok (.iadd, 1) := by decide +kernel
theorem dX6_ail_43 : decode cX6_ail 43 = .ok (.iastore, 1) := by decide +kernel
theorem dX6_ail_44 : decode cX6_ail 44 = .ok (.iload_n 3, 1) := by decide +kernel
theorem dX6_ail_45 : decode cX6_ail 45 = .ok (.ireturn, 1) := by decide +kernel
set_option maxRecDepth 20000 in
theorem ggX6_let_X6_isLodger : GoodIn wsX6_let wsX6_isLodger := goodIn_r _ [7, 8, 9, 10, 11, 6, 12, 13, 14, 15, 16, 17, 18, 19, 20, 21, 22, 23, 24, 25, 26, 27, 28, 29, 30, 31, 32, 33, 34, 35, 36, 37, 38, 39, 40, 41, 42, 43, 44, 45, 46] (by decide +kernel) (by decide +kernel)
set_option maxRecDepth 20000 in
theorem gX6_let_X6_isLodger : GoodIn wsX6_let (wsV RX6 155 RX6 yX6_isLodger wsX6_isLodger) := goodIn_app (goodIn_of _ (by decide +kernel)) ggX6_let_X6_isLodger
set_option maxRecDepth 20000 in
theorem ggX6_let_X6_in : GoodIn wsX6_let wsX6_in := goodIn_r _ [16] (by decide +kernel) (by decide +kernel)
set_option maxRecDepth 20000 in
theorem gX6_let_X6_in : GoodIn wsX6_let (va_wsS RX6 56 yX6_in wsX6_in) := goodIn_app (goodIn_of _ (by decide +kernel)) ggX6_let_X6_in
theorem dX6_let_0 : decode cX6_let 0 = .ok (.aload_n 0, 1) := by decide +kernel
theorem dX6_let_1 : decode cX6_let 1 = .ok (.iload_n 1, 1) := by decide +kernel
theorem dX6_let_2 : decode cX6_let 2 = .ok (.invokevirtual 155, 3) := by decide +kernel
theorem dX6_let_5 : decode cX6_let 5 = .ok (.ifCond .ne 6, 3) := by decide +kernel
theorem dX6_let_8 : decode cX6_let 8 = .ok (.bipush (-101), 2) := by decide +kernel
theorem dX6_let_10 : decode cX6_let 10 = .ok (.ireturn, 1) := by decide +kernel
theorem dX6_let_11 : decode cX6_let 11 = .ok (.iload_n 2, 1) := by decide +kernel
theorem dX6_let_12 : decode cX6_let 12 = .ok (.i2l, 1) := by decide +kernel
theorem dX6_let_13 : decode cX6_let 13 = .ok (.lconst 0, 1) := by decide +kernel
theorem dX6_let_14 : decode cX6_let 14 = .ok (.ldc2_w 162, 3) := by decide +kernel
theorem dX6_let_17 : decode cX6_let 17 = .ok (.invokestatic 56, 3) := by decide +kernel
theorem dX6_let_20 : decode cX6_let 20 = .ok (.ifCond .ne 6, 3) := by decide +kernel
theorem dX6_let_23 : decode cX6_let 23 = .ok (.bipush (-102), 2) := by decide +kernel
theorem dX6_let_25 : decode cX6_let 25 = .ok (.ireturn, 1) := by decide +kernel
theorem dX6_let_26 : decode cX6_let 26 = .ok (.aload_n 0, 1) := by decide +kernel
theorem dX6_let_27 : decode cX6_let 27 = .ok (.getfield 13, 3) := by decide +kernel
theorem dX6_let_30 : decode cX6_let 30 = .ok (.iload_n 1, 1) := by decide +kernel
theorem dX6_let_31 : decode cX6_let 31 = .ok (.iaload, 1) := by decide +kernel
theorem dX6_let_32 : decode cX6_let 32 = .ok (.istore_n 3, 1) := by decide +kernel
theorem dX6_let_33 : decode cX6_let 33 = .ok (.aload_n 0, 1) := by decide +kernel
theorem dX6_let_34 : decode cX6_let 34 = .ok (.getfield 13, 3) := by decide +kernel
theorem dX6_let_37 : decode cX6_let 37 = .ok (.iload_n 1, 1) := by decide +kernel
theorem dX6_let_38 : decode cX6_let 38 = .ok (.iload_n 2, 1) := by decide +kernel
theorem dX6_let_39 : decode cX6_let 39 = .ok (.iastore, 1) := by decide +kernel
theorem dX6_let_40 : decode cX6_let 40 = .ok (.iload_n 3, 1) := by decide +kernel
theorem dX6_let_41 : decode cX6_let 41 = .ok (.ireturn, 1) := by decide +kernel
set_option maxRecDepth 20000 in
theorem ggX6_hire_X6_lacks : GoodIn wsX6_hire wsX6_lacks := goodIn_r _ [6, 7, 8, 9, 10, 11, 12, 13, 14, 15, 16, 17, 18, 19, 20, 21, 22, 23, 24, 25, 26, 27, 28, 29, 30, 31, 32, 33, 34, 35, 36, 37] (by decide +kernel) (by decide +kernel)
set_option maxRecDepth 20000 in
theorem gX6_hire_X6_lacks : GoodIn wsX6_hire (wsV RX6 125 RX6 yX6_lacks wsX6_lacks) := goodIn_app (goodIn_of _ (by decide +kernel)) ggX6_hire_X6_lacks
theorem dX6_hire_0 : decode cX6_hire 0 = .ok (.aload_n 0, 1) := by decide +kernel
theorem dX6_hire_1 : decode cX6_hire 1 = .ok (.invokevirtual 125, 3) := by decide +kernel
theorem dX6_hire_4 : decode cX6_hire 4 = .ok (.ifCond .eq 6, 3) := by decide +kernel
theorem dX6_hire_7 : decode cX6_hire 7 = .ok (.bipush (-103), 2) := by decide +kernel
theorem dX6_hire_9 : decode cX6_hire 9 = .ok (.ireturn, 1) := by decide +kernel
theorem dX6_hire_10 : decode cX6_hire 10 = .ok (.aload_n 0, 1) := by decide +kernel
theorem dX6_hire_11 : decode cX6_hire 11 = .ok (.aload_n 0, 1) := by decide +kernel
theorem dX6_hire_12 : decode cX6_hire 12 = .ok (.getfield 112, 3) := by decide +kernel
theorem dX6_hire_15 : decode cX6_hire 15 = .ok (.ifCond .ne 7, 3) := by decide +kernel
theorem dX6_hire_18 : decode cX6_hire 18 = .ok (.iconst 1, 1) := by decide +kernel
theorem dX6_hire_19 : decode cX6_hire 19 = .ok (.goto 4, 3) := by decide +kernel
theorem dX6_hire_22 : decode cX6_hire 22 = .ok (.iconst 0, 1) := by decide +kernel
theorem dX6_hire_23 : decode cX6_hire 23 = .ok (.putfield 112, 3) := by decide +kernel
theorem dX6_hire_26 : decode cX6_hire 26 = .ok (.aload_n 0, 1) := by decide +kernel
theorem dX6_hire_27 : decode cX6_hire 27 = .ok (.getfield 112, 3) := by decide +kernel
theorem dX6_hire_30 : decode cX6_hire 30 = .ok (.ifCond .eq 7, 3) := by decide +kernel
theorem dX6_hire_33 : decode cX6_hire 33 = .ok (.iconst 1, 1) := by decide +kernel
theorem dX6_hire_34 : decode cX6_hire 34 = .ok (.goto 4, 3) := by decide +kernel
theorem dX6_hire_37 : decode cX6_hire 37 = .ok (.iconst 0, 1) := by decide +kernel
theorem dX6_hire_38 : decode cX6_hire 38 = .ok (.ireturn, 1) := by decide +kernel
set_option maxRecDepth 20000 in
theorem ggX6_goOn_X6_isUp : GoodIn wsX6_goOn wsX6_isUp := goodIn_r _ [5, 6, 7, 8, 9, 10, 4, 11, 21, 22, 23, 24, 25, 26, 27, 28, 29, 30, 31, 32, 33, 34, 35, 36, 37, 38, 39, 40, 41, 42, 43, 44, 45, 46, 47, 48, 49, 50] (by decide +kernel) (by decide +kernel)
set_option maxRecDepth 20000 in
theorem gX6_goOn_X6_isUp : GoodIn wsX6_goOn (wsV RX6 139 RX6 yX6_isUp wsX6_isUp) := goodIn_app (goodIn_of _ (by decide +kernel)) ggX6_goOn_X6_isUp
set_option maxRecDepth 20000 in
theorem ggX6_goOn_X6_leads : GoodIn wsX6_goOn wsX6_leads := goodIn_r _ [15, 16, 17, 18, 19, 4, 20, 21, 22, 23, 24, 25, 26, 27, 28, 29, 30, 31, 32, 33, 34, 35, 36, 37, 38, 39, 40, 41, 42, 43, 44, 45, 46, 47, 48, 49, 50] (by decide +kernel) (by decide +kernel)
set_option maxRecDepth 20000 in
theorem gX6_goOn_X6_leads : GoodIn wsX6_goOn (wsV RX6 164 RX6 yX6_leads wsX6_leads) := goodIn_app (goodIn_of _ (by decide +kernel)) ggX6_goOn_X6_leads
theorem dX6_goOn_0 : decode cX6_goOn 0 = .ok (.lload_n 1, 1) := by decide +kernel
theorem dX6_goOn_1 : decode cX6_goOn 1 = .ok (.lstore 4, 2) := by decide +kernel
theorem dX6_goOn_3 : decode cX6_goOn 3 = .ok (.iconst 0, 1) := by decide +kernel
theorem dX6_goOn_4 : decode cX6_goOn 4 = .ok (.istore 6, 2) := by decide +kernel
theorem dX6_goOn_6 : decode cX6_goOn 6 = .ok (.iload 6, 2) := by decide +kernel
theorem dX6_goOn_8 : decode cX6_goOn 8 = .ok (.iconst 5, 1) := by decide +kernel
theorem dX6_goOn_9 : decode cX6_goOn 9 = .ok (.if_icmp .ge 79, 3) := by decide +kernel
theorem dX6_goOn_12 : decode cX6_goOn 12 = .ok (.aload_n 0, 1) := by decide +kernel
theorem dX6_goOn_13 : decode cX6_goOn 13 = .ok (.iload 6, 2) := by decide +kernel
theorem dX6_goOn_15 : decode cX6_goOn 15 = .ok (.iload_n 3, 1) := by decide +kernel
theorem dX6_goOn_16 : decode cX6_goOn 16 = .ok (.invokevirtual 139, 3) := by decide +kernel
theorem dX6_goOn_19 : decode cX6_goOn 19 = .ok (.ifCond .eq 63, 3) := by decide +kernel
theorem dX6_goOn_22 : decode cX6_goOn 22 = .ok (.iconst 0, 1) := by decide +kernel
theorem dX6_goOn_23 : decode cX6_goOn 23 = .ok (.istore 7, 2) := by decide +kernel
theorem dX6_goOn_25 : decode cX6_goOn 25 = .ok (.iload 7, 2) := by decide +kernel
theorem dX6_goOn_27 : decode cX6_goOn 27 = .ok (.bipush 36, 2) := by decide +kernel
theorem dX6_goOn_29 : decode cX6_goOn 29 = .ok (.if_icmp .ge 53, 3) := by decide +kernel
theorem dX6_goOn_32 : decode cX6_goOn 32 = .ok (.lload_n 1, 1) := by decide +kernel
theorem dX6_goOn_33 : decode cX6_goOn 33 = .ok (.iload 7, 2) := by decide +kernel
theorem dX6_goOn_35 : decode cX6_goOn 35 = .ok (.lshr, 1) := by decide +kernel
theorem dX6_goOn_36 : decode cX6_goOn 36 = .ok (.lconst 1, 1) := by decide +kernel
theorem dX6_goOn_37 : decode cX6_goOn 37 = .ok (.land, 1) := by decide +kernel
theorem dX6_goOn_38 : decode cX6_goOn 38 = .ok (.lconst 1, 1) := by decide +kernel
theorem dX6_goOn_39 : decode cX6_goOn 39 = .ok (.lcmp, 1) := by decide +kernel
theorem dX6_goOn_40 : decode cX6_goOn 40 = .ok (.ifCond .ne 14, 3) := by decide +kernel
theorem dX6_goOn_43 : decode cX6_goOn 43 = .ok (.aload_n 0, 1) := by decide +kernel
theorem dX6_goOn_44 : decode cX6_goOn 44 = .ok (.iload 7, 2) := by decide +kernel
theorem dX6_goOn_46 : decode cX6_goOn 46 = .ok (.iload 6, 2) := by decide +kernel
theorem dX6_goOn_48 : decode cX6_goOn 48 = .ok (.invokevirtual 164, 3) := by decide +kernel
theorem dX6_goOn_51 : decode cX6_goOn 51 = .ok (.goto 4, 3) := by decide +kernel
theorem dX6_goOn_54 : decode cX6_goOn 54 = .ok (.iconst (-1), 1) := by decide +kernel
theorem dX6_goOn_55 : decode cX6_goOn 55 = .ok (.istore 8, 2) := by decide +kernel
theorem dX6_goOn_57 : decode cX6_goOn 57 = .ok (.lload 4, 2) := by decide +kernel
theorem dX6_goOn_59 : decode cX6_goOn 59 = .ok (.iload 8, 2) := by decide +kernel
theorem dX6_goOn_61 : decode cX6_goOn 61 = .ok (.iconst (-1), 1) := by decide +kernel
theorem dX6_goOn_62 : decode cX6_goOn 62 = .ok (.if_icmp .ne 7, 3) := by decide +kernel
theorem dX6_goOn_65 : decode cX6_goOn 65 = .ok (.lconst 0, 1) := by decide +kernel
theorem dX6_goOn_66 : decode cX6_goOn 66 = .ok (.goto 7, 3) := by decide +kernel
theorem dX6_goOn_69 : decode cX6_goOn 69 = .ok (.lconst 1, 1) := by decide +kernel
theorem dX6_goOn_70 : decode cX6_goOn 70 = .ok (.iload 8, 2) := by decide +kernel
theorem dX6_goOn_72 : decode cX6_goOn 72 = .ok (.lshl, 1) := by decide +kernel
theorem dX6_goOn_73 : decode cX6_goOn 73 = .ok (.lor, 1) := by decide +kernel
theorem dX6_goOn_74 : decode cX6_goOn 74 = .ok (.lstore 4, 2) := by decide +kernel
theorem dX6_goOn_76 : decode cX6_goOn 76 = .ok (.iinc 7 1, 3) := by decide +kernel
theorem dX6_goOn_79 : decode cX6_goOn 79 = .ok (.goto (-54), 3) := by decide +kernel
theorem dX6_goOn_82 : decode cX6_goOn 82 = .ok (.iinc 6 1, 3) := by decide +kernel
theorem dX6_goOn_85 : decode cX6_goOn 85 = .ok (.goto (-79), 3) := by decide +kernel
theorem dX6_goOn_88 : decode cX6_goOn 88 = .ok (.lload 4, 2) := by decide +kernel
theorem dX6_goOn_90 : decode cX6_goOn 90 = .ok (.lreturn, 1) := by decide +kernel
set_option maxRecDepth 20000 in
theorem ggX6_goBack_X6_isUp : GoodIn wsX6_goBack wsX6_isUp := goodIn_r _ [5, 6, 7, 8, 9, 10, 4, 11, 21, 22, 23, 24, 25, 26, 27, 28, 29, 30, 31, 32, 33, 34, 35, 36, 37, 38, 39, 40, 41, 42, 43, 44, 45, 46, 47, 48, 49, 50] (by decide +kernel) (by decide +kernel)
set_option maxRecDepth 20000 in
theorem gX6_goBack_X6_isUp : GoodIn wsX6_goBack (wsV RX6 139 RX6 yX6_isUp wsX6_isUp) := goodIn_app (goodIn_of _ (by decide +kernel)) ggX6_goBack_X6_isUp
set_option maxRecDepth 20000 in
theorem ggX6_goBack_X6_leads : GoodIn wsX6_goBack wsX6_leads := goodIn_r _ [15, 16, 17, 18, 19, 4, 20, 21, 22, 23, 24, 25, 26, 27, 28, 29, 30, 31, 32, 33, 34, 35, 36, 37, 38, 39, 40, 41, 42, 43, 44, 45, 46, 47, 48, 49, 50] (by decide +kernel) (by decide +kernel)
set_option maxRecDepth 20000 in
theorem gX6_goBack_X6_leads : GoodIn wsX6_goBack (wsV RX6 164 RX6 yX6_leads wsX6_leads) := goodIn_app (goodIn_of _ (by decide +kernel)) ggX6_goBack_X6_leads
theorem dX6_goBack_0 : decode cX6_goBack 0 = .ok (.lload_n 1, 1) := by decide +kernel
theorem dX6_goBack_1 : decode cX6_goBack 1 = .ok (.lstore 4, 2) := by decide +kernel
theorem dX6_goBack_3 : decode cX6_goBack 3 = .ok (.iconst 0, 1) := by decide +kernel
theorem dX6_goBack_4 : decode cX6_goBack 4 = .ok (.istore 6, 2) := by decide +kernel
theorem dX6_goBack_6 : decode cX6_goBack 6 = .ok (.iload 6, 2) := by decide +kernel
theorem dX6_goBack_8 : decode cX6_goBack 8 = .ok (.iconst 5, 1) := by decide +kernel
theorem dX6_goBack_9 : decode cX6_goBack 9 = .ok (.if_icmp .ge 75, 3) := by decide +kernel
theorem dX6_goBack_12 : decode cX6_goBack 12 = .ok (.aload_n 0, 1) := by decide +kernel
theorem dX6_goBack_13 : decode cX6_goBack 13 = .ok (.iload 6, 2) := by decide +kernel
theorem dX6_goBack_15 : decode cX6_goBack 15 = .ok (.iload_n 3, 1) := by decide +kernel
theorem dX6_goBack_16 : decode cX6_goBack 16 = .ok (.invokevirtual 139, 3) := by decide +kernel
theorem dX6_goBack_19 : decode cX6_goBack 19 = .ok (.ifCond .eq 59, 3) := by decide +kernel
theorem dX6_goBack_22 : decode cX6_goBack 22 = .ok (.iconst 0, 1) := by decide +kernel
theorem dX6_goBack_23 : decode cX6_goBack 23 = .ok (.istore 7, 2) := by decide +kernel
theorem dX6_goBack_25 : decode cX6_goBack 25 = .ok (.iload 7, 2) := by decide +kernel
theorem dX6_goBack_27 : decode cX6_goBack 27 = .ok (.bipush 36, 2) := by decide +kernel
theorem dX6_goBack_29 : decode cX6_goBack 29 = .ok (.if_icmp .ge 49, 3) := by decide +kernel
theorem dX6_goBack_32 : decode cX6_goBack 32 = .ok (.aload_n 0, 1) := by decide +kernel
theorem dX6_goBack_33 : decode cX6_goBack 33 = .ok (.iload 7, 2) := by decide +kernel
theorem dX6_goBack_35 : decode cX6_goBack 35 = .ok (.iload 6, 2) := by decide +kernel
theorem dX6_goBack_37 : decode cX6_goBack 37 = .ok (.invokevirtual 164, 3) := by decide +kernel
theorem dX6_goBack_40 : decode cX6_goBack 40 = .ok (.istore 8, 2) := by decide +kernel
theorem dX6_goBack_42 : decode cX6_goBack 42 = .ok (.lload 4, 2) := by decide +kernel
theorem dX6_goBack_44 : decode cX6_goBack 44 = .ok (.iload 8, 2) := by decide +kernel
theorem dX6_goBack_46 : decode cX6_goBack 46 = .ok (.iconst (-1), 1) := by decide +kernel
theorem dX6_goBack_47 : decode cX6_goBack 47 = .ok (.if_icmp .eq 21, 3) := by decide +kernel
theorem dX6_goBack_50 : decode cX6_goBack 50 = .ok (.lload_n 1, 1) := by decide +kernel
theorem dX6_goBack_51 : decode cX6_goBack 51 = .ok (.iload 8, 2) := by decide +kernel
theorem dX6_goBack_53 : decode cX6_goBack 53 = .ok (.lshr, 1) := by decide +kernel
theorem dX6_goBack_54 : decode cX6_goBack 54 = .ok (.lconst 1, 1) := by decide +kernel
theorem dX6_goBack_55 : decode cX6_goBack 55 = .ok (.land, 1) := by decide +kernel
theorem dX6_goBack_56 : decode cX6_goBack 56 = .ok (.lconst 1, 1) := by decide +kernel
theorem dX6_goBack_57 : decode cX6_goBack 57 = .ok (.lcmp, 1) := by decide +kernel
theorem dX6_goBack_58 : decode cX6_goBack 58 = .ok (.ifCond .ne 10, 3) := by decide +kernel
theorem dX6_goBack_61 : decode cX6_goBack 61 = .ok (.lconst 1, 1) := by decide +kernel
theorem dX6_goBack_62 : decode cX6_goBack 62 = .ok (.iload 7, 2) := by decide +kernel
theorem dX6_goBack_64 : decode cX6_goBack 64 = .ok (.lshl, 1) := by decide +kernel
theorem dX6_goBack_65 : decode cX6_goBack 65 = .ok (.goto 4, 3) := by decide +kernel
theorem dX6_goBack_68 : decode cX6_goBack 68 = .ok (.lconst 0, 1) := by decide +kernel
theorem dX6_goBack_69 : decode cX6_goBack 69 = .ok (.lor, 1) := by decide +kernel
theorem dX6_goBack_70 : decode cX6_goBack 70 = .ok (.lstore 4, 2) := by decide +kernel
theorem dX6_goBack_72 : decode cX6_goBack 72 = .ok (.iinc 7 1, 3) := by decide +kernel
theorem dX6_goBack_75 : decode cX6_goBack 75 = .ok (.goto (-50), 3) := by decide +kernel
theorem dX6_goBack_78 : decode cX6_goBack 78 = .ok (.iinc 6 1, 3) := by decide +kernel
theorem dX6_goBack_81 : decode cX6_goBack 81 = .ok (.goto (-75), 3) := by decide +kernel
theorem dX6_goBack_84 : decode cX6_goBack 84 = .ok (.lload 4, 2) := by decide +kernel
theorem dX6_goBack_86 : decode cX6_goBack 86 = .ok (.lreturn, 1) := by decide +kernel
set_option maxRecDepth 20000 in
theorem ggX6_first_X6_goOn : GoodIn wsX6_first wsX6_goOn := goodIn_r _ [8, 9, 10, 11, 7, 12, 13, 14, 15, 16, 17, 18, 19, 20, 21, 22, 23, 24, 25, 26, 27, 28, 29, 30, 31, 32, 33, 34, 35, 36, 37, 38, 39, 40, 41, 42, 43, 44, 45, 46, 47, 48, 49, 50, 51, 52, 53, 54, 55, 56, 57] (by decide +kernel) (by decide +kernel)
set_option maxRecDepth 20000 in
theorem gX6_first_X6_goOn : GoodIn wsX6_first (wsV RX6 184 RX6 yX6_goOn wsX6_goOn) := goodIn_app (goodIn_of _ (by decide +kernel)) ggX6_first_X6_goOn
theorem dX6_first_0 : decode cX6_first 0 = .ok (.lconst 1, 1) := by decide +kernel
theorem dX6_first_1 : decode cX6_first 1 = .ok (.aload_n 0, 1) := by decide +kernel
theorem dX6_first_2 : decode cX6_first 2 = .ok (.getfield 19, 3) := by decide +kernel
theorem dX6_first_5 : decode cX6_first 5 = .ok (.iload_n 1, 1) := by decide +kernel
theorem dX6_first_6 : decode cX6_first 6 = .ok (.iaload, 1) := by decide +kernel
theorem dX6_first_7 : decode cX6_first 7 = .ok (.lshl, 1) := by decide +kernel
theorem dX6_first_8 : decode cX6_first 8 = .ok (.lstore_n 2, 1) := by decide +kernel
theorem dX6_first_9 : decode cX6_first 9 = .ok (.aload_n 0, 1) := by decide +kernel
theorem dX6_first_10 : decode cX6_first 10 = .ok (.getfield 22, 3) := by decide +kernel
theorem dX6_first_13 : decode cX6_first 13 = .ok (.iload_n 1, 1) := by decide +kernel
theorem dX6_first_14 : decode cX6_first 14 = .ok (.iaload, 1) := by decide +kernel
theorem dX6_first_15 : decode cX6_first 15 = .ok (.iconst 1, 1) := by decide +kernel
theorem dX6_first_16 : decode cX6_first 16 = .ok (.if_icmp .ne 7, 3) := by decide +kernel
theorem dX6_first_19 : decode cX6_first 19 = .ok (.lload_n 2, 1) := by decide +kernel
theorem dX6_first_20 : decode cX6_first 20 = .ok (.goto 12, 3) := by decide +kernel
theorem dX6_first_23 : decode cX6_first 23 = .ok (.aload_n 0, 1) := by decide +kernel
theorem dX6_first_24 : decode cX6_first 24 = .ok (.lload_n 2, 1) := by decide +kernel
theorem dX6_first_25 : decode cX6_first 25 = .ok (.aload_n 0, 1) := by decide +kernel
theorem dX6_first_26 : decode cX6_first 26 = .ok (.getfield 109, 3) := by decide +kernel
theorem dX6_first_29 : decode cX6_first 29 = .ok (.invokevirtual 184, 3) := by decide +kernel
theorem dX6_first_32 : decode cX6_first 32 = .ok (.lreturn, 1) := by decide +kernel
set_option maxRecDepth 20000 in
theorem ggX6_reach_X6_first : GoodIn wsX6_reach wsX6_first := goodIn_r _ [6, 7, 8, 1, 9, 10, 11, 5, 12, 13, 14, 15, 16, 17, 18, 19, 20, 21, 22, 23, 24, 25, 26, 27, 28, 29, 30, 31, 32, 33, 34, 35, 36, 37, 38, 39, 40, 41, 42, 43, 44, 45, 46, 47, 48, 49, 50, 51, 52, 53, 54, 55, 56, 57, 58, 59, 60, 61] (by decide +kernel) (by decide +kernel)
set_option maxRecDepth 20000 in
theorem gX6_reach_X6_first : GoodIn wsX6_reach (wsV RX6 188 RX6 yX6_first wsX6_first) := goodIn_app (goodIn_of _ (by decide +kernel)) ggX6_reach_X6_first
set_option maxRecDepth 20000 in
theorem ggX6_reach_X6_goOn : GoodIn wsX6_reach wsX6_goOn := goodIn_r _ [12, 13, 14, 15, 5, 16, 17, 18, 19, 20, 21, 22, 23, 24, 25, 26, 27, 28, 29, 30, 31, 32, 33, 34, 35, 36, 37, 38, 39, 40, 41, 42, 43, 44, 45, 46, 47, 48, 49, 50, 51, 52, 53, 54, 55, 56, 57, 58, 59, 60, 61] (by decide +kernel) (by decide +kernel)
set_option maxRecDepth 20000 in
theorem gX6_reach_X6_goOn : GoodIn wsX6_reach (wsV RX6 184 RX6 yX6_goOn wsX6_goOn) := goodIn_app (goodIn_of _ (by decide +kernel)) ggX6_reach_X6_goOn
theorem dX6_reach_0 : decode cX6_reach 0 = .ok (.aload_n 0, 1) := by decide +kernel
theorem dX6_reach_1 : decode cX6_reach 1 = .ok (.iload_n 1, 1) := by decide +kernel
theorem dX6_reach_2 : decode cX6_reach 2 = .ok (.invokevirtual 188, 3) := by decide +kernel
theorem dX6_reach_5 : decode cX6_reach 5 = .ok (.lstore_n 3, 1) := by decide +kernel
theorem dX6_reach_6 : decode cX6_reach 6 = .ok (.iconst 1, 1) := by decide +kernel
theorem dX6_reach_7 : decode cX6_reach 7 = .ok (.istore 5, 2) := by decide +kernel
theorem dX6_reach_9 : decode cX6_reach 9 = .ok (.iload 5, 2) := by decide +kernel
theorem dX6_reach_11 : decode cX6_reach 11 = .ok (.iload_n 2, 1) := by decide +kernel
theorem dX6_reach_12 : decode cX6_reach 12 = .ok (.if_icmp .gt 22, 3) := by decide +kernel
theorem dX6_reach_15 : decode cX6_reach 15 = .ok (.aload_n 0, 1) := by decide +kernel
theorem dX6_reach_16 : decode cX6_reach 16 = .ok (.lload_n 3, 1) := by decide +kernel
theorem dX6_reach_17 : decode cX6_reach 17 = .ok (.aload_n 0, 1) := by decide +kernel
theorem dX6_reach_18 : decode cX6_reach 18 = .ok (.getfield 109, 3) := by decide +kernel
theorem dX6_reach_21 : decode cX6_reach 21 = .ok (.iload 5, 2) := by decide +kernel
theorem dX6_reach_23 : decode cX6_reach 23 = .ok (.iadd, 1) := by decide +kernel
theorem dX6_reach_24 : decode cX6_reach 24 = .ok (.invokevirtual 184, 3) := by decide +kernel
theorem dX6_reach_27 : decode cX6_reach 27 = .ok (.lstore_n 3, 1) := by decide +kernel
theorem dX6_reach_28 : decode cX6_reach 28 = .ok (.iinc 5 1, 3) := by decide +kernel
theorem dX6_reach_31 : decode cX6_reach 31 = .ok (.goto (-22), 3) := by decide +kernel
theorem dX6_reach_34 : decode cX6_reach 34 = .ok (.lload_n 3, 1) := by decide +kernel
theorem dX6_reach_35 : decode cX6_reach 35 = .ok (.lreturn, 1) := by decide +kernel
set_option maxRecDepth 20000 in
theorem ggX6_can_X6_isShip : GoodIn wsX6_can wsX6_isShip := goodIn_r _ [6, 7, 8, 9, 5, 10, 51, 52, 53, 54, 55, 56, 57, 58, 59, 60, 61, 62, 63, 64, 65, 66, 67, 68, 69, 70, 71, 72, 73, 74, 75, 76, 77, 78, 79, 80] (by decide +kernel) (by decide +kernel)
set_option maxRecDepth 20000 in
theorem gX6_can_X6_isShip : GoodIn wsX6_can (wsV RX6 170 RX6 yX6_isShip wsX6_isShip) := goodIn_app (goodIn_of _ (by decide +kernel)) ggX6_can_X6_isShip
set_option maxRecDepth 20000 in
theorem ggX6_can_X6_isCell : GoodIn wsX6_can wsX6_isCell := goodIn_r _ [14, 15, 16, 17, 18, 5, 19, 7, 8, 9, 10, 51, 52, 53, 54, 55, 56, 57, 58, 59, 60, 61, 62, 63, 64, 65, 66, 67, 68, 69, 70, 71, 72, 73, 74, 75, 76, 77, 78, 79, 80] (by decide +kernel) (by decide +kernel)
set_option maxRecDepth 20000 in
theorem gX6_can_X6_isCell : GoodIn wsX6_can (wsV RX6 176 RX6 yX6_isCell wsX6_isCell) := goodIn_app (goodIn_of _ (by decide +kernel)) ggX6_can_X6_isCell
set_option maxRecDepth 20000 in
theorem ggX6_can_X6_in : GoodIn wsX6_can wsX6_in := goodIn_r _ [10] (by decide +kernel) (by decide +kernel)
set_option maxRecDepth 20000 in
theorem gX6_can_X6_in : GoodIn wsX6_can (va_wsS RX6 56 yX6_in wsX6_in) := goodIn_app (goodIn_of _ (by decide +kernel)) ggX6_can_X6_in
set_option maxRecDepth 20000 in
theorem ggX6_can_X6_reach : GoodIn wsX6_can wsX6_reach := goodIn_r _ [23, 24, 25, 26, 27, 5, 28, 29, 30, 31, 32, 33, 34, 35, 36, 37, 38, 39, 40, 41, 42, 43, 44, 45, 46, 47, 48, 49, 50, 8, 9, 10, 51, 52, 53, 54, 55, 56, 57, 58, 59, 60, 61, 62, 63, 64, 65, 66, 67, 68, 69, 70, 71, 72, 73, 74, 75, 76, 77, 78, 79, 80] (by decide +kernel) (by decide +kernel)
set_option maxRecDepth 20000 in
theorem gX6_can_X6_reach : GoodIn wsX6_can (wsV RX6 192 RX6 yX6_reach wsX6_reach) := goodIn_app (goodIn_of _ (by decide +kernel)) ggX6_can_X6_reach
theorem dX6_can_0 : decode cX6_can 0 = .ok (.aload_n 0, 1) := by decide +kernel
theorem dX6_can_1 : decode cX6_can 1 = .ok (.iload_n 1, 1) := by decide +kernel
theorem dX6_can_2 : decode cX6_can 2 = .ok (.invokevirtual 170, 3) := by decide +kernel
theorem dX6_can_5 : decode cX6_can 5 = .ok (.ifCond .eq 11, 3) := by decide +kernel
theorem dX6_can_8 : decode cX6_can 8 = .ok (.aload_n 0, 1) := by decide +kernel
theorem dX6_can_9 : decode cX6_can 9 = .ok (.iload_n 2, 1) := by decide +kernel
