theorem dX6_can_10 : decode cX6_can 10 = .ok (.invokevirtual 176, 3) := by decide +kernel
theorem dX6_can_13 : decode cX6_can 13 = .ok (.ifCond .ne 6, 3) := by decide +kernel
theorem dX6_can_16 : decode cX6_can 16 = .ok (.bipush (-101), 2) := by decide +kernel
theorem dX6_can_18 : decode cX6_can 18 = .ok (.ireturn, 1) := by decide +kernel
theorem dX6_can_19 : decode cX6_can 19 = .ok (.iload_n 3, 1) := by decide +kernel
theorem dX6_can_20 : decode cX6_can 20 = .ok (.i2l, 1) := by decide +kernel
theorem dX6_can_21 : decode cX6_can 21 = .ok (.lconst 0, 1) := by decide +kernel
theorem dX6_can_22 : decode cX6_can 22 = .ok (.ldc2_w 182, 3) := by decide +kernel
theorem dX6_can_25 : decode cX6_can 25 = .ok (.invokestatic 56, 3) := by decide +kernel
theorem dX6_can_28 : decode cX6_can 28 = .ok (.ifCond .eq 17, 3) := by decide +kernel
theorem dX6_can_31 : decode cX6_can 31 = .ok (.aload_n 0, 1) := by decide +kernel
theorem dX6_can_32 : decode cX6_can 32 = .ok (.iload_n 1, 1) := by decide +kernel
theorem dX6_can_33 : decode cX6_can 33 = .ok (.iload_n 3, 1) := by decide +kernel
theorem dX6_can_34 : decode cX6_can 34 = .ok (.invokevirtual 192, 3) := by decide +kernel
theorem dX6_can_37 : decode cX6_can 37 = .ok (.iload_n 2, 1) := by decide +kernel
theorem dX6_can_38 : decode cX6_can 38 = .ok (.lshr, 1) := by decide +kernel
theorem dX6_can_39 : decode cX6_can 39 = .ok (.lconst 1, 1) := by decide +kernel
theorem dX6_can_40 : decode cX6_can 40 = .ok (.land, 1) := by decide +kernel
theorem dX6_can_41 : decode cX6_can 41 = .ok (.l2i, 1) := by decide +kernel
theorem dX6_can_42 : decode cX6_can 42 = .ok (.goto 5, 3) := by decide +kernel
theorem dX6_can_45 : decode cX6_can 45 = .ok (.bipush (-102), 2) := by decide +kernel
theorem dX6_can_47 : decode cX6_can 47 = .ok (.ireturn, 1) := by decide +kernel
set_option maxRecDepth 20000 in
theorem ggX6_soonOf_X6_first : GoodIn wsX6_soonOf wsX6_first := goodIn_r _ [7, 1, 8, 2, 9, 10, 11, 6, 12, 13, 14, 15, 16, 17, 18, 19, 20, 21, 22, 23, 24, 25, 26, 27, 28, 29, 30, 31, 32, 33, 34, 35, 36, 37, 38, 39, 40, 41, 42, 43, 44, 45, 46, 47, 48, 49, 50, 51, 52, 53, 54, 55, 56, 57, 58, 59, 60, 61] (by decide +kernel) (by decide +kernel)
set_option maxRecDepth 20000 in
theorem gX6_soonOf_X6_first : GoodIn wsX6_soonOf (wsV RX6 188 RX6 yX6_first wsX6_first) := goodIn_app (goodIn_of _ (by decide +kernel)) ggX6_soonOf_X6_first
set_option maxRecDepth 20000 in
theorem ggX6_soonOf_X6_goOn : GoodIn wsX6_soonOf wsX6_goOn := goodIn_r _ [12, 13, 14, 15, 6, 16, 17, 18, 19, 20, 21, 22, 23, 24, 25, 26, 27, 28, 29, 30, 31, 32, 33, 34, 35, 36, 37, 38, 39, 40, 41, 42, 43, 44, 45, 46, 47, 48, 49, 50, 51, 52, 53, 54, 55, 56, 57, 58, 59, 60, 61] (by decide +kernel) (by decide +kernel)
set_option maxRecDepth 20000 in
theorem gX6_soonOf_X6_goOn : GoodIn wsX6_soonOf (wsV RX6 184 RX6 yX6_goOn wsX6_goOn) := goodIn_app (goodIn_of _ (by decide +kernel)) ggX6_soonOf_X6_goOn
theorem dX6_soonOf_0 : decode cX6_soonOf 0 = .ok (.aload_n 0, 1) := by decide +kernel
theorem dX6_soonOf_1 : decode cX6_soonOf 1 = .ok (.getfield 19, 3) := by decide +kernel
theorem dX6_soonOf_4 : decode cX6_soonOf 4 = .ok (.iload_n 1, 1) := by decide +kernel
theorem dX6_soonOf_5 : decode cX6_soonOf 5 = .ok (.iaload, 1) := by decide +kernel
theorem dX6_soonOf_6 : decode cX6_soonOf 6 = .ok (.iload_n 2, 1) := by decide +kernel
theorem dX6_soonOf_7 : decode cX6_soonOf 7 = .ok (.if_icmp .ne 5, 3) := by decide +kernel
theorem dX6_soonOf_10 : decode cX6_soonOf 10 = .ok (.iconst 0, 1) := by decide +kernel
theorem dX6_soonOf_11 : decode cX6_soonOf 11 = .ok (.ireturn, 1) := by decide +kernel
theorem dX6_soonOf_12 : decode cX6_soonOf 12 = .ok (.aload_n 0, 1) := by decide +kernel
theorem dX6_soonOf_13 : decode cX6_soonOf 13 = .ok (.iload_n 1, 1) := by decide +kernel
theorem dX6_soonOf_14 : decode cX6_soonOf 14 = .ok (.invokevirtual 188, 3) := by decide +kernel
theorem dX6_soonOf_17 : decode cX6_soonOf 17 = .ok (.lstore_n 3, 1) := by decide +kernel
theorem dX6_soonOf_18 : decode cX6_soonOf 18 = .ok (.iconst 0, 1) := by decide +kernel
theorem dX6_soonOf_19 : decode cX6_soonOf 19 = .ok (.istore 5, 2) := by decide +kernel
theorem dX6_soonOf_21 : decode cX6_soonOf 21 = .ok (.iload 5, 2) := by decide +kernel
theorem dX6_soonOf_23 : decode cX6_soonOf 23 = .ok (.bipush 41, 2) := by decide +kernel
theorem dX6_soonOf_25 : decode cX6_soonOf 25 = .ok (.if_icmp .ge 39, 3) := by decide +kernel
theorem dX6_soonOf_28 : decode cX6_soonOf 28 = .ok (.lload_n 3, 1) := by decide +kernel
theorem dX6_soonOf_29 : decode cX6_soonOf 29 = .ok (.iload_n 2, 1) := by decide +kernel
theorem dX6_soonOf_30 : decode cX6_soonOf 30 = .ok (.lshr, 1) := by decide +kernel
theorem dX6_soonOf_31 : decode cX6_soonOf 31 = .ok (.lconst 1, 1) := by decide +kernel
theorem dX6_soonOf_32 : decode cX6_soonOf 32 = .ok (.land, 1) := by decide +kernel
theorem dX6_soonOf_33 : decode cX6_soonOf 33 = .ok (.lconst 1, 1) := by decide +kernel
theorem dX6_soonOf_34 : decode cX6_soonOf 34 = .ok (.lcmp, 1) := by decide +kernel
theorem dX6_soonOf_35 : decode cX6_soonOf 35 = .ok (.ifCond .ne 8, 3) := by decide +kernel
theorem dX6_soonOf_38 : decode cX6_soonOf 38 = .ok (.iload 5, 2) := by decide +kernel
theorem dX6_soonOf_40 : decode cX6_soonOf 40 = .ok (.iconst 1, 1) := by decide +kernel
theorem dX6_soonOf_41 : decode cX6_soonOf 41 = .ok (.iadd, 1) := by decide +kernel
theorem dX6_soonOf_42 : decode cX6_soonOf 42 = .ok (.ireturn, 1) := by decide +kernel
theorem dX6_soonOf_43 : decode cX6_soonOf 43 = .ok (.aload_n 0, 1) := by decide +kernel
theorem dX6_soonOf_44 : decode cX6_soonOf 44 = .ok (.lload_n 3, 1) := by decide +kernel
theorem dX6_soonOf_45 : decode cX6_soonOf 45 = .ok (.aload_n 0, 1) := by decide +kernel
theorem dX6_soonOf_46 : decode cX6_soonOf 46 = .ok (.getfield 109, 3) := by decide +kernel
theorem dX6_soonOf_49 : decode cX6_soonOf 49 = .ok (.iload 5, 2) := by decide +kernel
theorem dX6_soonOf_51 : decode cX6_soonOf 51 = .ok (.iadd, 1) := by decide +kernel
theorem dX6_soonOf_52 : decode cX6_soonOf 52 = .ok (.iconst 1, 1) := by decide +kernel
theorem dX6_soonOf_53 : decode cX6_soonOf 53 = .ok (.iadd, 1) := by decide +kernel
theorem dX6_soonOf_54 : decode cX6_soonOf 54 = .ok (.invokevirtual 184, 3) := by decide +kernel
theorem dX6_soonOf_57 : decode cX6_soonOf 57 = .ok (.lstore_n 3, 1) := by decide +kernel
theorem dX6_soonOf_58 : decode cX6_soonOf 58 = .ok (.iinc 5 1, 3) := by decide +kernel
theorem dX6_soonOf_61 : decode cX6_soonOf 61 = .ok (.goto (-40), 3) := by decide +kernel
theorem dX6_soonOf_64 : decode cX6_soonOf 64 = .ok (.iconst (-1), 1) := by decide +kernel
theorem dX6_soonOf_65 : decode cX6_soonOf 65 = .ok (.ireturn, 1) := by decide +kernel
set_option maxRecDepth 20000 in
theorem ggX6_byWhom_X6_soonOf : GoodIn wsX6_byWhom wsX6_soonOf := goodIn_r _ [9, 3, 2, 10, 11, 12, 8, 13, 4, 14, 15, 16, 17, 18, 19, 20, 21, 22, 23, 24, 25, 26, 27, 28, 29, 30, 31, 32, 33, 34, 35, 36, 41, 42, 43, 44, 45, 46, 47, 48, 49, 50, 51, 52, 53, 54, 55, 56, 57, 58, 59, 60, 61, 62, 63, 64, 65, 66, 67, 68, 69, 70] (by decide +kernel) (by decide +kernel)
set_option maxRecDepth 20000 in
theorem gX6_byWhom_X6_soonOf : GoodIn wsX6_byWhom (wsV RX6 196 RX6 yX6_soonOf wsX6_soonOf) := goodIn_app (goodIn_of _ (by decide +kernel)) ggX6_byWhom_X6_soonOf
set_option maxRecDepth 20000 in
theorem ggX6_byWhom_X6_goBack : GoodIn wsX6_byWhom wsX6_goBack := goodIn_r _ [40, 18, 19, 20, 8, 21, 22, 23, 24, 25, 26, 27, 28, 29, 30, 31, 32, 33, 34, 35, 36, 41, 42, 43, 44, 45, 46, 47, 48, 49, 50, 51, 52, 53, 54, 55, 56, 57, 58, 59, 60, 61, 62, 63, 64, 65, 66, 67, 68, 69, 70] (by decide +kernel) (by decide +kernel)
set_option maxRecDepth 20000 in
theorem gX6_byWhom_X6_goBack : GoodIn wsX6_byWhom (wsV RX6 199 RX6 yX6_goBack wsX6_goBack) := goodIn_app (goodIn_of _ (by decide +kernel)) ggX6_byWhom_X6_goBack
set_option maxRecDepth 20000 in
theorem ggX6_byWhom_X6_isUp : GoodIn wsX6_byWhom wsX6_isUp := goodIn_r _ [21, 22, 23, 24, 25, 26, 8, 27, 41, 42, 43, 44, 45, 46, 47, 48, 49, 50, 51, 52, 53, 54, 55, 56, 57, 58, 59, 60, 61, 62, 63, 64, 65, 66, 67, 68, 69, 70] (by decide +kernel) (by decide +kernel)
set_option maxRecDepth 20000 in
theorem gX6_byWhom_X6_isUp : GoodIn wsX6_byWhom (wsV RX6 139 RX6 yX6_isUp wsX6_isUp) := goodIn_app (goodIn_of _ (by decide +kernel)) ggX6_byWhom_X6_isUp
set_option maxRecDepth 20000 in
theorem ggX6_byWhom_X6_leads : GoodIn wsX6_byWhom wsX6_leads := goodIn_r _ [31, 32, 33, 34, 35, 8, 36, 41, 42, 43, 44, 45, 46, 47, 48, 49, 50, 51, 52, 53, 54, 55, 56, 57, 58, 59, 60, 61, 62, 63, 64, 65, 66, 67, 68, 69, 70] (by decide +kernel) (by decide +kernel)
set_option maxRecDepth 20000 in
theorem gX6_byWhom_X6_leads : GoodIn wsX6_byWhom (wsV RX6 164 RX6 yX6_leads wsX6_leads) := goodIn_app (goodIn_of _ (by decide +kernel)) ggX6_byWhom_X6_leads
theorem dX6_byWhom_0 : decode cX6_byWhom 0 = .ok (.aload_n 0, 1) := by decide +kernel
theorem dX6_byWhom_1 : decode cX6_byWhom 1 = .ok (.iload_n 1, 1) := by decide +kernel
theorem dX6_byWhom_2 : decode cX6_byWhom 2 = .ok (.iload_n 2, 1) := by decide +kernel
theorem dX6_byWhom_3 : decode cX6_byWhom 3 = .ok (.invokevirtual 196, 3) := by decide +kernel
theorem dX6_byWhom_6 : decode cX6_byWhom 6 = .ok (.istore 4, 2) := by decide +kernel
theorem dX6_byWhom_8 : decode cX6_byWhom 8 = .ok (.iload_n 3, 1) := by decide +kernel
theorem dX6_byWhom_9 : decode cX6_byWhom 9 = .ok (.iload 4, 2) := by decide +kernel
theorem dX6_byWhom_11 : decode cX6_byWhom 11 = .ok (.if_icmp .lt 5, 3) := by decide +kernel
theorem dX6_byWhom_14 : decode cX6_byWhom 14 = .ok (.iconst (-1), 1) := by decide +kernel
theorem dX6_byWhom_15 : decode cX6_byWhom 15 = .ok (.ireturn, 1) := by decide +kernel
theorem dX6_byWhom_16 : decode cX6_byWhom 16 = .ok (.aload_n 0, 1) := by decide +kernel
theorem dX6_byWhom_17 : decode cX6_byWhom 17 = .ok (.getfield 25, 3) := by decide +kernel
theorem dX6_byWhom_20 : decode cX6_byWhom 20 = .ok (.iload 4, 2) := by decide +kernel
theorem dX6_byWhom_22 : decode cX6_byWhom 22 = .ok (.lconst 1, 1) := by decide +kernel
theorem dX6_byWhom_23 : decode cX6_byWhom 23 = .ok (.iload_n 2, 1) := by decide +kernel
theorem dX6_byWhom_24 : decode cX6_byWhom 24 = .ok (.lshl, 1) := by decide +kernel
theorem dX6_byWhom_25 : decode cX6_byWhom 25 = .ok (.lastore, 1) := by decide +kernel
theorem dX6_byWhom_26 : decode cX6_byWhom 26 = .ok (.iload 4, 2) := by decide +kernel
theorem dX6_byWhom_28 : decode cX6_byWhom 28 = .ok (.iconst 1, 1) := by decide +kernel
theorem dX6_byWhom_29 : decode cX6_byWhom 29 = .ok (.isub, 1) := by decide +kernel
theorem dX6_byWhom_30 : decode cX6_byWhom 30 = .ok (.istore 5, 2) := by decide +kernel
theorem dX6_byWhom_32 : decode cX6_byWhom 32 = .ok (.iload 5, 2) := by decide +kernel
theorem dX6_byWhom_34 : decode cX6_byWhom 34 = .ok (.ifCond .lt 36, 3) := by decide +kernel
theorem dX6_byWhom_37 : decode cX6_byWhom 37 = .ok (.aload_n 0, 1) := by decide +kernel
theorem dX6_byWhom_38 : decode cX6_byWhom 38 = .ok (.getfield 25, 3) := by decide +kernel
theorem dX6_byWhom_41 : decode cX6_byWhom 41 = .ok (.iload 5, 2) := by decide +kernel
theorem dX6_byWhom_43 : decode cX6_byWhom 43 = .ok (.aload_n 0, 1) := by decide +kernel
theorem dX6_byWhom_44 : decode cX6_byWhom 44 = .ok (.aload_n 0, 1) := by decide +kernel
theorem dX6_byWhom_45 : decode cX6_byWhom 45 = .ok (.getfield 25, 3) := by decide +kernel
theorem dX6_byWhom_48 : decode cX6_byWhom 48 = .ok (.iload 5, 2) := by decide +kernel
theorem dX6_byWhom_50 : decode cX6_byWhom 50 = .ok (.iconst 1, 1) := by decide +kernel
theorem dX6_byWhom_51 : decode cX6_byWhom 51 = .ok (.iadd, 1) := by decide +kernel
theorem dX6_byWhom_52 : decode cX6_byWhom 52 = .ok (.laload, 1) := by decide +kernel
theorem dX6_byWhom_53 : decode cX6_byWhom 53 = .ok (.aload_n 0, 1) := by decide +kernel
theorem dX6_byWhom_54 : decode cX6_byWhom 54 = .ok (.getfield 109, 3) := by decide +kernel
theorem dX6_byWhom_57 : decode cX6_byWhom 57 = .ok (.iload 5, 2) := by decide +kernel
theorem dX6_byWhom_59 : decode cX6_byWhom 59 = .ok (.iadd, 1) := by decide +kernel
theorem dX6_byWhom_60 : decode cX6_byWhom 60 = .ok (.invokevirtual 199, 3) := by decide +kernel
theorem dX6_byWhom_63 : decode cX6_byWhom 63 = .ok (.lastore, 1) := by decide +kernel
theorem dX6_byWhom_64 : decode cX6_byWhom 64 = .ok (.iinc 5 (-1), 3) := by decide +kernel
theorem dX6_byWhom_67 : decode cX6_byWhom 67 = .ok (.goto (-35), 3) := by decide +kernel
theorem dX6_byWhom_70 : decode cX6_byWhom 70 = .ok (.aload_n 0, 1) := by decide +kernel
theorem dX6_byWhom_71 : decode cX6_byWhom 71 = .ok (.getfield 19, 3) := by decide +kernel
theorem dX6_byWhom_74 : decode cX6_byWhom 74 = .ok (.iload_n 1, 1) := by decide +kernel
theorem dX6_byWhom_75 : decode cX6_byWhom 75 = .ok (.iaload, 1) := by decide +kernel
theorem dX6_byWhom_76 : decode cX6_byWhom 76 = .ok (.istore 5, 2) := by decide +kernel
theorem dX6_byWhom_78 : decode cX6_byWhom 78 = .ok (.iconst (-1), 1) := by decide +kernel
theorem dX6_byWhom_79 : decode cX6_byWhom 79 = .ok (.istore 6, 2) := by decide +kernel
theorem dX6_byWhom_81 : decode cX6_byWhom 81 = .ok (.iconst 0, 1) := by decide +kernel
theorem dX6_byWhom_82 : decode cX6_byWhom 82 = .ok (.istore 7, 2) := by decide +kernel
theorem dX6_byWhom_84 : decode cX6_byWhom 84 = .ok (.iload 7, 2) := by decide +kernel
theorem dX6_byWhom_86 : decode cX6_byWhom 86 = .ok (.iload_n 3, 1) := by decide +kernel
theorem dX6_byWhom_87 : decode cX6_byWhom 87 = .ok (.if_icmp .gt 111, 3) := by decide +kernel
theorem dX6_byWhom_90 : decode cX6_byWhom 90 = .ok (.iconst 5, 1) := by decide +kernel
theorem dX6_byWhom_91 : decode cX6_byWhom 91 = .ok (.istore 6, 2) := by decide +kernel
theorem dX6_byWhom_93 : decode cX6_byWhom 93 = .ok (.iload 5, 2) := by decide +kernel
theorem dX6_byWhom_95 : decode cX6_byWhom 95 = .ok (.istore 8, 2) := by decide +kernel
theorem dX6_byWhom_97 : decode cX6_byWhom 97 = .ok (.iconst 4, 1) := by decide +kernel
theorem dX6_byWhom_98 : decode cX6_byWhom 98 = .ok (.istore 9, 2) := by decide +kernel
theorem dX6_byWhom_100 : decode cX6_byWhom 100 = .ok (.iload 9, 2) := by decide +kernel
theorem dX6_byWhom_102 : decode cX6_byWhom 102 = .ok (.ifCond .lt 86, 3) := by decide +kernel
theorem dX6_byWhom_105 : decode cX6_byWhom 105 = .ok (.aload_n 0, 1) := by decide +kernel
theorem dX6_byWhom_106 : decode cX6_byWhom 106 = .ok (.iload 9, 2) := by decide +kernel
theorem dX6_byWhom_108 : decode cX6_byWhom 108 = .ok (.aload_n 0, 1) := by decide +kernel
theorem dX6_byWhom_109 : decode cX6_byWhom 109 = .ok (.getfield 109, 3) := by decide +kernel
theorem dX6_byWhom_112 : decode cX6_byWhom 112 = .ok (.iload 7, 2) := by decide +kernel
theorem dX6_byWhom_114 : decode cX6_byWhom 114 = .ok (.iadd, 1) := by decide +kernel
theorem dX6_byWhom_115 : decode cX6_byWhom 115 = .ok (.invokevirtual 139, 3) := by decide +kernel
theorem dX6_byWhom_118 : decode cX6_byWhom 118 = .ok (.ifCond .eq 28, 3) := by decide +kernel
theorem dX6_byWhom_121 : decode cX6_byWhom 121 = .ok (.iload 7, 2) := by decide +kernel
theorem dX6_byWhom_123 : decode cX6_byWhom 123 = .ok (.ifCond .gt 12, 3) := by decide +kernel
theorem dX6_byWhom_126 : decode cX6_byWhom 126 = .ok (.aload_n 0, 1) := by decide +kernel
theorem dX6_byWhom_127 : decode cX6_byWhom 127 = .ok (.getfield 22, 3) := by decide +kernel
theorem dX6_byWhom_130 : decode cX6_byWhom 130 = .ok (.iload_n 1, 1) := by decide +kernel
theorem dX6_byWhom_131 : decode cX6_byWhom 131 = .ok (.iaload, 1) := by decide +kernel
theorem dX6_byWhom_132 : decode cX6_byWhom 132 = .ok (.ifCond .ne 14, 3) := by decide +kernel
theorem dX6_byWhom_135 : decode cX6_byWhom 135 = .ok (.aload_n 0, 1) := by decide +kernel
theorem dX6_byWhom_136 : decode cX6_byWhom 136 = .ok (.iload 5, 2) := by decide +kernel
theorem dX6_byWhom_138 : decode cX6_byWhom 138 = .ok (.iload 9, 2) := by decide +kernel
theorem dX6_byWhom_140 : decode cX6_byWhom 140 = .ok (.invokevirtual 164, 3) := by decide +kernel
theorem dX6_byWhom_143 : decode cX6_byWhom 143 = .ok (.goto 4, 3) := by decide +kernel
theorem dX6_byWhom_146 : decode cX6_byWhom 146 = .ok (.iconst (-1), 1) := by decide +kernel
theorem dX6_byWhom_147 : decode cX6_byWhom 147 = .ok (.istore 10, 2) := by decide +kernel
theorem dX6_byWhom_149 : decode cX6_byWhom 149 = .ok (.iload 10, 2) := by decide +kernel
theorem dX6_byWhom_151 : decode cX6_byWhom 151 = .ok (.iconst (-1), 1) := by decide +kernel
theorem dX6_byWhom_152 : decode cX6_byWhom 152 = .ok (.if_icmp .eq 30, 3) := by decide +kernel
theorem dX6_byWhom_155 : decode cX6_byWhom 155 = .ok (.aload_n 0, 1) := by decide +kernel
theorem dX6_byWhom_156 : decode cX6_byWhom 156 = .ok (.getfield 25, 3) := by decide +kernel
theorem dX6_byWhom_159 : decode cX6_byWhom 159 = .ok (.iload 7, 2) := by decide +kernel
theorem dX6_byWhom_161 : decode cX6_byWhom 161 = .ok (.iconst 1, 1) := by decide +kernel
theorem dX6_byWhom_162 : decode cX6_byWhom 162 = .ok (.iadd, 1) := by decide +kernel
theorem dX6_byWhom_163 : decode cX6_byWhom 163 = .ok (.laload, 1) := by decide +kernel
theorem dX6_byWhom_164 : decode cX6_byWhom 164 = .ok (.iload 10, 2) := by decide +kernel
theorem dX6_byWhom_166 : decode cX6_byWhom 166 = .ok (.lshr, 1) := by decide +kernel
theorem dX6_byWhom_167 : decode cX6_byWhom 167 = .ok (.lconst 1, 1) := by decide +kernel
theorem dX6_byWhom_168 : decode cX6_byWhom 168 = .ok (.land, 1) := by decide +kernel
theorem dX6_byWhom_169 : decode cX6_byWhom 169 = .ok (.lconst 1, 1) := by decide +kernel
theorem dX6_byWhom_170 : decode cX6_byWhom 170 = .ok (.lcmp, 1) := by decide +kernel
theorem dX6_byWhom_171 : decode cX6_byWhom 171 = .ok (.ifCond .ne 11, 3) := by decide +kernel
theorem dX6_byWhom_174 : decode cX6_byWhom 174 = .ok (.iload 9, 2) := by decide +kernel
theorem dX6_byWhom_176 : decode cX6_byWhom 176 = .ok (.istore 6, 2) := by decide +kernel
theorem dX6_byWhom_178 : decode cX6_byWhom 178 = .ok (.iload 10, 2) := by decide +kernel
theorem dX6_byWhom_180 : decode cX6_byWhom 180 = .ok (.istore 8, 2) := by decide +kernel
theorem dX6_byWhom_182 : decode cX6_byWhom 182 = .ok (.iinc 9 (-1), 3) := by decide +kernel
theorem dX6_byWhom_185 : decode cX6_byWhom 185 = .ok (.goto (-85), 3) := by decide +kernel
theorem dX6_byWhom_188 : decode cX6_byWhom 188 = .ok (.iload 8, 2) := by decide +kernel
theorem dX6_byWhom_190 : decode cX6_byWhom 190 = .ok (.istore 5, 2) := by decide +kernel
theorem dX6_byWhom_192 : decode cX6_byWhom 192 = .ok (.iinc 7 1, 3) := by decide +kernel
theorem dX6_byWhom_195 : decode cX6_byWhom 195 = .ok (.goto (-111), 3) := by decide +kernel
theorem dX6_byWhom_198 : decode cX6_byWhom 198 = .ok (.iload 6, 2) := by decide +kernel
theorem dX6_byWhom_200 : decode cX6_byWhom 200 = .ok (.ireturn, 1) := by decide +kernel
set_option maxRecDepth 20000 in
theorem ggX6_tellSoon_X6_soonOf : GoodIn wsX6_tellSoon wsX6_soonOf := goodIn_r _ [5, 6, 7, 8, 9, 10, 4, 11, 12, 13, 14, 15, 16, 17, 18, 19, 20, 21, 22, 23, 24, 25, 26, 27, 28, 29, 30, 31, 32, 33, 34, 35, 45, 46, 47, 48, 49, 50, 51, 52, 53, 54, 55, 56, 57, 58, 59, 60, 61, 62, 63, 64, 65, 66, 67, 68, 69, 70, 71, 72, 73, 74] (by decide +kernel) (by decide +kernel)
set_option maxRecDepth 20000 in
theorem gX6_tellSoon_X6_soonOf : GoodIn wsX6_tellSoon (wsV RX6 196 RX6 yX6_soonOf wsX6_soonOf) := goodIn_app (goodIn_of _ (by decide +kernel)) ggX6_tellSoon_X6_soonOf
set_option maxRecDepth 20000 in
theorem ggX6_tellSoon_X6_byWhom : GoodIn wsX6_tellSoon wsX6_byWhom := goodIn_r _ [39, 40, 7, 6, 12, 1, 2, 3, 4, 5, 8, 9, 10, 11, 13, 14, 15, 16, 17, 18, 19, 20, 21, 22, 23, 24, 25, 26, 27, 28, 29, 30, 31, 32, 33, 34, 35, 41, 42, 43, 44, 45, 46, 47, 48, 49, 50, 51, 52, 53, 54, 55, 56, 57, 58, 59, 60, 61, 62, 63, 64, 65, 66, 67, 68, 69, 70, 71, 72, 73, 74] (by decide +kernel) (by decide +kernel)
set_option maxRecDepth 20000 in
theorem gX6_tellSoon_X6_byWhom : GoodIn wsX6_tellSoon (wsV RX6 202 RX6 yX6_byWhom wsX6_byWhom) := goodIn_app (goodIn_of _ (by decide +kernel)) ggX6_tellSoon_X6_byWhom
theorem dX6_tellSoon_0 : decode cX6_tellSoon 0 = .ok (.iload_n 3, 1) := by decide +kernel
theorem dX6_tellSoon_1 : decode cX6_tellSoon 1 = .ok (.ifCond .ne 12, 3) := by decide +kernel
theorem dX6_tellSoon_4 : decode cX6_tellSoon 4 = .ok (.aload_n 0, 1) := by decide +kernel
theorem dX6_tellSoon_5 : decode cX6_tellSoon 5 = .ok (.iload_n 1, 1) := by decide +kernel
theorem dX6_tellSoon_6 : decode cX6_tellSoon 6 = .ok (.iload_n 2, 1) := by decide +kernel
theorem dX6_tellSoon_7 : decode cX6_tellSoon 7 = .ok (.invokevirtual 196, 3) := by decide +kernel
theorem dX6_tellSoon_10 : decode cX6_tellSoon 10 = .ok (.goto 13, 3) := by decide +kernel
theorem dX6_tellSoon_13 : decode cX6_tellSoon 13 = .ok (.aload_n 0, 1) := by decide +kernel
theorem dX6_tellSoon_14 : decode cX6_tellSoon 14 = .ok (.iload_n 1, 1) := by decide +kernel
theorem dX6_tellSoon_15 : decode cX6_tellSoon 15 = .ok (.iload_n 2, 1) := by decide +kernel
theorem dX6_tellSoon_16 : decode cX6_tellSoon 16 = .ok (.iload_n 3, 1) := by decide +kernel
theorem dX6_tellSoon_17 : decode cX6_tellSoon 17 = .ok (.bipush 10, 2) := by decide +kernel
theorem dX6_tellSoon_19 : decode cX6_tellSoon 19 = .ok (.isub, 1) := by decide +kernel
theorem dX6_tellSoon_20 : decode cX6_tellSoon 20 = .ok (.invokevirtual 202, 3) := by decide +kernel
theorem dX6_tellSoon_23 : decode cX6_tellSoon 23 = .ok (.ireturn, 1) := by decide +kernel
set_option maxRecDepth 20000 in
theorem ggX6_soon_X6_isShip : GoodIn wsX6_soon wsX6_isShip := goodIn_r _ [7, 8, 9, 10, 6, 11, 65, 66, 67, 68, 69, 70, 71, 72, 73, 74, 75, 76, 77, 78, 79, 80, 81, 82, 83, 84, 85, 86, 87, 88, 89, 90, 91, 92, 93, 94] (by decide +kernel) (by decide +kernel)
set_option maxRecDepth 20000 in
theorem gX6_soon_X6_isShip : GoodIn wsX6_soon (wsV RX6 170 RX6 yX6_isShip wsX6_isShip) := goodIn_app (goodIn_of _ (by decide +kernel)) ggX6_soon_X6_isShip
set_option maxRecDepth 20000 in
theorem ggX6_soon_X6_isCell : GoodIn wsX6_soon wsX6_isCell := goodIn_r _ [15, 16, 17, 18, 19, 6, 20, 8, 9, 10, 11, 65, 66, 67, 68, 69, 70, 71, 72, 73, 74, 75, 76, 77, 78, 79, 80, 81, 82, 83, 84, 85, 86, 87, 88, 89, 90, 91, 92, 93, 94] (by decide +kernel) (by decide +kernel)
set_option maxRecDepth 20000 in
theorem gX6_soon_X6_isCell : GoodIn wsX6_soon (wsV RX6 176 RX6 yX6_isCell wsX6_isCell) := goodIn_app (goodIn_of _ (by decide +kernel)) ggX6_soon_X6_isCell
set_option maxRecDepth 20000 in
theorem ggX6_soon_X6_in : GoodIn wsX6_soon wsX6_in := goodIn_r _ [11] (by decide +kernel) (by decide +kernel)
set_option maxRecDepth 20000 in
theorem gX6_soon_X6_in : GoodIn wsX6_soon (va_wsS RX6 56 yX6_in wsX6_in) := goodIn_app (goodIn_of _ (by decide +kernel)) ggX6_soon_X6_in
set_option maxRecDepth 20000 in
theorem ggX6_soon_X6_tellSoon : GoodIn wsX6_soon wsX6_tellSoon := goodIn_r _ [24, 25, 26, 27, 6, 28, 29, 30, 31, 32, 33, 34, 35, 36, 37, 38, 39, 40, 41, 42, 43, 44, 45, 46, 47, 48, 49, 50, 51, 52, 53, 54, 55, 9, 10, 11, 56, 57, 58, 59, 60, 61, 62, 63, 64, 65, 66, 67, 68, 69, 70, 71, 72, 73, 74, 75, 76, 77, 78, 79, 80, 81, 82, 83, 84, 85, 86, 87, 88, 89, 90, 91, 92, 93, 94] (by decide +kernel) (by decide +kernel)
set_option maxRecDepth 20000 in
theorem gX6_soon_X6_tellSoon : GoodIn wsX6_soon (wsV RX6 210 RX6 yX6_tellSoon wsX6_tellSoon) := goodIn_app (goodIn_of _ (by decide +kernel)) ggX6_soon_X6_tellSoon
theorem dX6_soon_0 : decode cX6_soon 0 = .ok (.aload_n 0, 1) := by decide +kernel
theorem dX6_soon_1 : decode cX6_soon 1 = .ok (.iload_n 1, 1) := by decide +kernel
theorem dX6_soon_2 : decode cX6_soon 2 = .ok (.invokevirtual 170, 3) := by decide +kernel
theorem dX6_soon_5 : decode cX6_soon 5 = .ok (.ifCond .eq 11, 3) := by decide +kernel
theorem dX6_soon_8 : decode cX6_soon 8 = .ok (.aload_n 0, 1) := by decide +kernel
theorem dX6_soon_9 : decode cX6_soon 9 = .ok (.iload_n 2, 1) := by decide +kernel
theorem dX6_soon_10 : decode cX6_soon 10 = .ok (.invokevirtual 176, 3) := by decide +kernel
theorem dX6_soon_13 : decode cX6_soon 13 = .ok (.ifCond .ne 6, 3) := by decide +kernel
theorem dX6_soon_16 : decode cX6_soon 16 = .ok (.bipush (-101), 2) := by decide +kernel
theorem dX6_soon_18 : decode cX6_soon 18 = .ok (.ireturn, 1) := by decide +kernel
theorem dX6_soon_19 : decode cX6_soon 19 = .ok (.iload_n 3, 1) := by decide +kernel
theorem dX6_soon_20 : decode cX6_soon 20 = .ok (.ifCond .eq 17, 3) := by decide +kernel
theorem dX6_soon_23 : decode cX6_soon 23 = .ok (.iload_n 3, 1) := by decide +kernel
theorem dX6_soon_24 : decode cX6_soon 24 = .ok (.i2l, 1) := by decide +kernel
theorem dX6_soon_25 : decode cX6_soon 25 = .ok (.ldc2_w 206, 3) := by decide +kernel
theorem dX6_soon_28 : decode cX6_soon 28 = .ok (.ldc2_w 208, 3) := by decide +kernel
theorem dX6_soon_31 : decode cX6_soon 31 = .ok (.invokestatic 56, 3) := by decide +kernel
theorem dX6_soon_34 : decode cX6_soon 34 = .ok (.ifCond .eq 13, 3) := by decide +kernel
theorem dX6_soon_37 : decode cX6_soon 37 = .ok (.aload_n 0, 1) := by decide +kernel
theorem dX6_soon_38 : decode cX6_soon 38 = .ok (.iload_n 1, 1) := by decide +kernel
theorem dX6_soon_39 : decode cX6_soon 39 = .ok (.iload_n 2, 1) := by decide +kernel
theorem dX6_soon_40 : decode cX6_soon 40 = .ok (.iload_n 3, 1) := by decide +kernel
theorem dX6_soon_41 : decode cX6_soon 41 = .ok (.invokevirtual 210, 3) := by decide +kernel
theorem dX6_soon_44 : decode cX6_soon 44 = .ok (.goto 5, 3) := by decide +kernel
theorem dX6_soon_47 : decode cX6_soon 47 = .ok (.bipush (-102), 2) := by decide +kernel
theorem dX6_soon_49 : decode cX6_soon 49 = .ok (.ireturn, 1) := by decide +kernel
set_option maxRecDepth 20000 in
theorem ggX6_meet_X6_isShip : GoodIn wsX6_meet wsX6_isShip := goodIn_r _ [7, 8, 9, 10, 6, 11, 37, 38, 39, 40, 41, 42, 43, 44, 45, 46, 47, 48, 49, 50, 51, 52, 53, 54, 55, 56, 57, 58, 59, 60, 61, 62, 63, 64, 65, 66] (by decide +kernel) (by decide +kernel)
set_option maxRecDepth 20000 in
theorem gX6_meet_X6_isShip : GoodIn wsX6_meet (wsV RX6 170 RX6 yX6_isShip wsX6_isShip) := goodIn_app (goodIn_of _ (by decide +kernel)) ggX6_meet_X6_isShip
set_option maxRecDepth 20000 in
theorem ggX6_meet_X6_first : GoodIn wsX6_meet wsX6_first := goodIn_r _ [15, 1, 16, 2, 17, 18, 19, 6, 20, 21, 22, 23, 24, 25, 26, 27, 28, 29, 30, 31, 32, 33, 34, 35, 36, 9, 10, 11, 37, 38, 39, 40, 41, 42, 43, 44, 45, 46, 47, 48, 49, 50, 51, 52, 53, 54, 55, 56, 57, 58, 59, 60, 61, 62, 63, 64, 65, 66] (by decide +kernel) (by decide +kernel)
set_option maxRecDepth 20000 in
theorem gX6_meet_X6_first : GoodIn wsX6_meet (wsV RX6 188 RX6 yX6_first wsX6_first) := goodIn_app (goodIn_of _ (by decide +kernel)) ggX6_meet_X6_first
set_option maxRecDepth 20000 in
theorem ggX6_meet_X6_goOn : GoodIn wsX6_meet wsX6_goOn := goodIn_r _ [20, 21, 22, 23, 6, 24, 25, 26, 27, 28, 29, 30, 31, 32, 33, 34, 35, 36, 9, 10, 11, 37, 38, 39, 40, 41, 42, 43, 44, 45, 46, 47, 48, 49, 50, 51, 52, 53, 54, 55, 56, 57, 58, 59, 60, 61, 62, 63, 64, 65, 66] (by decide +kernel) (by decide +kernel)
set_option maxRecDepth 20000 in
theorem gX6_meet_X6_goOn : GoodIn wsX6_meet (wsV RX6 184 RX6 yX6_goOn wsX6_goOn) := goodIn_app (goodIn_of _ (by decide +kernel)) ggX6_meet_X6_goOn
theorem dX6_meet_0 : decode cX6_meet 0 = .ok (.aload_n 0, 1) := by decide +kernel
theorem dX6_meet_1 : decode cX6_meet 1 = .ok (.iload_n 1, 1) := by decide +kernel
theorem dX6_meet_2 : decode cX6_meet 2 = .ok (.invokevirtual 170, 3) := by decide +kernel
theorem dX6_meet_5 : decode cX6_meet 5 = .ok (.ifCond .eq 16, 3) := by decide +kernel
theorem dX6_meet_8 : decode cX6_meet 8 = .ok (.aload_n 0, 1) := by decide +kernel
theorem dX6_meet_9 : decode cX6_meet 9 = .ok (.iload_n 2, 1) := by decide +kernel
theorem dX6_meet_10 : decode cX6_meet 10 = .ok (.invokevirtual 170, 3) := by decide +kernel
theorem dX6_meet_13 : decode cX6_meet 13 = .ok (.ifCond .eq 8, 3) := by decide +kernel
theorem dX6_meet_16 : decode cX6_meet 16 = .ok (.iload_n 1, 1) := by decide +kernel
theorem dX6_meet_17 : decode cX6_meet 17 = .ok (.iload_n 2, 1) := by decide +kernel
theorem dX6_meet_18 : decode cX6_meet 18 = .ok (.if_icmp .ne 6, 3) := by decide +kernel
theorem dX6_meet_21 : decode cX6_meet 21 = .ok (.bipush (-101), 2) := by decide +kernel
theorem dX6_meet_23 : decode cX6_meet 23 = .ok (.ireturn, 1) := by decide +kernel
theorem dX6_meet_24 : decode cX6_meet 24 = .ok (.aload_n 0, 1) := by decide +kernel
theorem dX6_meet_25 : decode cX6_meet 25 = .ok (.getfield 19, 3) := by decide +kernel
theorem dX6_meet_28 : decode cX6_meet 28 = .ok (.iload_n 1, 1) := by decide +kernel
theorem dX6_meet_29 : decode cX6_meet 29 = .ok (.iaload, 1) := by decide +kernel
theorem dX6_meet_30 : decode cX6_meet 30 = .ok (.aload_n 0, 1) := by decide +kernel
theorem dX6_meet_31 : decode cX6_meet 31 = .ok (.getfield 19, 3) := by decide +kernel
theorem dX6_meet_34 : decode cX6_meet 34 = .ok (.iload_n 2, 1) := by decide +kernel
theorem dX6_meet_35 : decode cX6_meet 35 = .ok (.iaload, 1) := by decide +kernel
theorem dX6_meet_36 : decode cX6_meet 36 = .ok (.if_icmp .ne 5, 3) := by decide +kernel
theorem dX6_meet_39 : decode cX6_meet 39 = .ok (.iconst 0, 1) := by decide +kernel
theorem dX6_meet_40 : decode cX6_meet 40 = .ok (.ireturn, 1) := by decide +kernel
theorem dX6_meet_41 : decode cX6_meet 41 = .ok (.aload_n 0, 1) := by decide +kernel
theorem dX6_meet_42 : decode cX6_meet 42 = .ok (.iload_n 1, 1) := by decide +kernel
theorem dX6_meet_43 : decode cX6_meet 43 = .ok (.invokevirtual 188, 3) := by decide +kernel
theorem dX6_meet_46 : decode cX6_meet 46 = .ok (.lstore_n 3, 1) := by decide +kernel
theorem dX6_meet_47 : decode cX6_meet 47 = .ok (.aload_n 0, 1) := by decide +kernel
theorem dX6_meet_48 : decode cX6_meet 48 = .ok (.iload_n 2, 1) := by decide +kernel
theorem dX6_meet_49 : decode cX6_meet 49 = .ok (.invokevirtual 188, 3) := by decide +kernel
theorem dX6_meet_52 : decode cX6_meet 52 = .ok (.lstore 5, 2) := by decide +kernel
theorem dX6_meet_54 : decode cX6_meet 54 = .ok (.iconst 0, 1) := by decide +kernel
theorem dX6_meet_55 : decode cX6_meet 55 = .ok (.istore 7, 2) := by decide +kernel
theorem dX6_meet_57 : decode cX6_meet 57 = .ok (.iload 7, 2) := by decide +kernel
theorem dX6_meet_59 : decode cX6_meet 59 = .ok (.bipush 41, 2) := by decide +kernel
theorem dX6_meet_61 : decode cX6_meet 61 = .ok (.if_icmp .ge 55, 3) := by decide +kernel
theorem dX6_meet_64 : decode cX6_meet 64 = .ok (.lload_n 3, 1) := by decide +kernel
theorem dX6_meet_65 : decode cX6_meet 65 = .ok (.lload 5, 2) := by decide +kernel
theorem dX6_meet_67 : decode cX6_meet 67 = .ok (.land, 1) := by decide +kernel
theorem dX6_meet_68 : decode cX6_meet 68 = .ok (.lconst 0, 1) := by decide +kernel
theorem dX6_meet_69 : decode cX6_meet 69 = .ok (.lcmp, 1) := by decide +kernel
theorem dX6_meet_70 : decode cX6_meet 70 = .ok (.ifCond .eq 8, 3) := by decide +kernel
theorem dX6_meet_73 : decode cX6_meet 73 = .ok (.iload 7, 2) := by decide +kernel
theorem dX6_meet_75 : decode cX6_meet 75 = .ok (.iconst 1, 1) := by decide +kernel
theorem dX6_meet_76 : decode cX6_meet 76 = .ok (.iadd, 1) := by decide +kernel
theorem dX6_meet_77 : decode cX6_meet 77 = .ok (.ireturn, 1) := by decide +kernel
theorem dX6_meet_78 : decode cX6_meet 78 = .ok (.aload_n 0, 1) := by decide +kernel
theorem dX6_meet_79 : decode cX6_meet 79 = .ok (.lload_n 3, 1) := by decide +kernel
theorem dX6_meet_80 : decode cX6_meet 80 = .ok (.aload_n 0, 1) := by decide +kernel
theorem dX6_meet_81 : decode cX6_meet 81 = .ok (.getfield 109, 3) := by decide +kernel
theorem dX6_meet_84 : decode cX6_meet 84 = .ok (.iload 7, 2) := by decide +kernel
theorem dX6_meet_86 : decode cX6_meet 86 = .ok (.iadd, 1) := by decide +kernel
theorem dX6_meet_87 : decode cX6_meet 87 = .ok (.iconst 1, 1) := by decide +kernel
theorem dX6_meet_88 : decode cX6_meet 88 = .ok (.iadd, 1) := by decide +kernel
theorem dX6_meet_89 : decode cX6_meet 89 = .ok (.invokevirtual 184, 3) := by decide +kernel
theorem dX6_meet_92 : decode cX6_meet 92 = .ok (.lstore_n 3, 1) := by decide +kernel
theorem dX6_meet_93 : decode cX6_meet 93 = .ok (.aload_n 0, 1) := by decide +kernel
theorem dX6_meet_94 : decode cX6_meet 94 = .ok (.lload 5, 2) := by decide +kernel
theorem dX6_meet_96 : decode cX6_meet 96 = .ok (.aload_n 0, 1) := by decide +kernel
theorem dX6_meet_97 : decode cX6_meet 97 = .ok (.getfield 109, 3) := by decide +kernel
theorem dX6_meet_100 : decode cX6_meet 100 = .ok (.iload 7, 2) := by decide +kernel
theorem dX6_meet_102 : decode cX6_meet 102 = .ok (.iadd, 1) := by decide +kernel
theorem dX6_meet_103 : decode cX6_meet 103 = .ok (.iconst 1, 1) := by decide +kernel
theorem dX6_meet_104 : decode cX6_meet 104 = .ok (.iadd, 1) := by decide +kernel
theorem dX6_meet_105 : decode cX6_meet 105 = .ok (.invokevirtual 184, 3) := by decide +kernel
theorem dX6_meet_108 : decode cX6_meet 108 = .ok (.lstore 5, 2) := by decide +kernel
theorem dX6_meet_110 : decode cX6_meet 110 = .ok (.iinc 7 1, 3) := by decide +kernel
theorem dX6_meet_113 : decode cX6_meet 113 = .ok (.goto (-56), 3) := by decide +kernel
theorem dX6_meet_116 : decode cX6_meet 116 = .ok (.iconst (-1), 1) := by decide +kernel
theorem dX6_meet_117 : decode cX6_meet 117 = .ok (.ireturn, 1) := by decide +kernel
set_option maxRecDepth 20000 in
theorem ggX6_soonIf_X6_soonOf : GoodIn wsX6_soonIf wsX6_soonOf := goodIn_r _ [6, 7, 8, 9, 10, 11, 5, 12, 13, 14, 15, 16, 17, 18, 19, 20, 21, 22, 23, 1, 24, 25, 26, 27, 28, 29, 30, 31, 32, 33, 34, 35, 36, 37, 38, 39, 40, 41, 42, 43, 44, 45, 46, 47, 48, 49, 50, 51, 52, 53, 54, 55, 56, 57, 58, 59, 60, 61, 62, 63, 64, 65] (by decide +kernel) (by decide +kernel)
set_option maxRecDepth 20000 in
theorem gX6_soonIf_X6_soonOf : GoodIn wsX6_soonIf (wsV RX6 196 RX6 yX6_soonOf wsX6_soonOf) := goodIn_app (goodIn_of _ (by decide +kernel)) ggX6_soonIf_X6_soonOf
theorem dX6_soonIf_0 : decode cX6_soonIf 0 = .ok (.aload_n 0, 1) := by decide +kernel
theorem dX6_soonIf_1 : decode cX6_soonIf 1 = .ok (.getfield 16, 3) := by decide +kernel
theorem dX6_soonIf_4 : decode cX6_soonIf 4 = .ok (.iload_n 1, 1) := by decide +kernel
theorem dX6_soonIf_5 : decode cX6_soonIf 5 = .ok (.iaload, 1) := by decide +kernel
theorem dX6_soonIf_6 : decode cX6_soonIf 6 = .ok (.istore 5, 2) := by decide +kernel
theorem dX6_soonIf_8 : decode cX6_soonIf 8 = .ok (.aload_n 0, 1) := by decide +kernel
theorem dX6_soonIf_9 : decode cX6_soonIf 9 = .ok (.getfield 16, 3) := by decide +kernel
theorem dX6_soonIf_12 : decode cX6_soonIf 12 = .ok (.iload_n 1, 1) := by decide +kernel
theorem dX6_soonIf_13 : decode cX6_soonIf 13 = .ok (.iload_n 2, 1) := by decide +kernel
theorem dX6_soonIf_14 : decode cX6_soonIf 14 = .ok (.iastore, 1) := by decide +kernel
theorem dX6_soonIf_15 : decode cX6_soonIf 15 = .ok (.aload_n 0, 1) := by decide +kernel
theorem dX6_soonIf_16 : decode cX6_soonIf 16 = .ok (.iload_n 3, 1) := by decide +kernel
theorem dX6_soonIf_17 : decode cX6_soonIf 17 = .ok (.iload 4, 2) := by decide +kernel
theorem dX6_soonIf_19 : decode cX6_soonIf 19 = .ok (.invokevirtual 196, 3) := by decide +kernel
theorem dX6_soonIf_22 : decode cX6_soonIf 22 = .ok (.istore 6, 2) := by decide +kernel
theorem dX6_soonIf_24 : decode cX6_soonIf 24 = .ok (.aload_n 0, 1) := by decide +kernel
theorem dX6_soonIf_25 : decode cX6_soonIf 25 = .ok (.getfield 16, 3) := by decide +kernel
theorem dX6_soonIf_28 : decode cX6_soonIf 28 = .ok (.iload_n 1, 1) := by decide +kernel
theorem dX6_soonIf_29 : decode cX6_soonIf 29 = .ok (.iload 5, 2) := by decide +kernel
theorem dX6_soonIf_31 : decode cX6_soonIf 31 = .ok (.iastore, 1) := by decide +kernel
theorem dX6_soonIf_32 : decode cX6_soonIf 32 = .ok (.iload 6, 2) := by decide +kernel
theorem dX6_soonIf_34 : decode cX6_soonIf 34 = .ok (.iconst (-1), 1) := by decide +kernel
theorem dX6_soonIf_35 : decode cX6_soonIf 35 = .ok (.if_icmp .ne 8, 3) := by decide +kernel
theorem dX6_soonIf_38 : decode cX6_soonIf 38 = .ok (.bipush 99, 2) := by decide +kernel
theorem dX6_soonIf_40 : decode cX6_soonIf 40 = .ok (.goto 5, 3) := by decide +kernel
theorem dX6_soonIf_43 : decode cX6_soonIf 43 = .ok (.iload 6, 2) := by decide +kernel
theorem dX6_soonIf_45 : decode cX6_soonIf 45 = .ok (.ireturn, 1) := by decide +kernel
set_option maxRecDepth 20000 in
theorem ggX6_neededOf_X6_soonIf : GoodIn wsX6_neededOf wsX6_soonIf := goodIn_r _ [7, 1, 8, 9, 10, 6, 11, 12, 2, 13, 14, 15, 16, 17, 18, 19, 20, 21, 22, 23, 24, 25, 26, 27, 28, 29, 30, 31, 32, 33, 34, 35, 36, 37, 38, 39, 40, 41, 42, 43, 44, 45, 46, 47, 48, 49, 50, 51, 52, 53, 54, 55, 56, 57, 58, 59, 60, 61, 62, 63, 64, 65, 66, 67, 68, 69] (by decide +kernel) (by decide +kernel)
set_option maxRecDepth 20000 in
theorem gX6_neededOf_X6_soonIf : GoodIn wsX6_neededOf (wsV RX6 213 RX6 yX6_soonIf wsX6_soonIf) := goodIn_app (goodIn_of _ (by decide +kernel)) ggX6_neededOf_X6_soonIf
theorem dX6_neededOf_0 : decode cX6_neededOf 0 = .ok (.iconst (-1), 1) := by decide +kernel
theorem dX6_neededOf_1 : decode cX6_neededOf 1 = .ok (.istore_n 3, 1) := by decide +kernel
theorem dX6_neededOf_2 : decode cX6_neededOf 2 = .ok (.iconst (-1), 1) := by decide +kernel
theorem dX6_neededOf_3 : decode cX6_neededOf 3 = .ok (.istore 4, 2) := by decide +kernel
theorem dX6_neededOf_5 : decode cX6_neededOf 5 = .ok (.iconst 0, 1) := by decide +kernel
theorem dX6_neededOf_6 : decode cX6_neededOf 6 = .ok (.istore 5, 2) := by decide +kernel
theorem dX6_neededOf_8 : decode cX6_neededOf 8 = .ok (.iload 5, 2) := by decide +kernel
theorem dX6_neededOf_10 : decode cX6_neededOf 10 = .ok (.iconst 4, 1) := by decide +kernel
theorem dX6_neededOf_11 : decode cX6_neededOf 11 = .ok (.if_icmp .ge 83, 3) := by decide +kernel
theorem dX6_neededOf_14 : decode cX6_neededOf 14 = .ok (.aload_n 0, 1) := by decide +kernel
theorem dX6_neededOf_15 : decode cX6_neededOf 15 = .ok (.iload 5, 2) := by decide +kernel
theorem dX6_neededOf_17 : decode cX6_neededOf 17 = .ok (.aload_n 0, 1) := by decide +kernel
theorem dX6_neededOf_18 : decode cX6_neededOf 18 = .ok (.getfield 16, 3) := by decide +kernel
theorem dX6_neededOf_21 : decode cX6_neededOf 21 = .ok (.iload 5, 2) := by decide +kernel
theorem dX6_neededOf_23 : decode cX6_neededOf 23 = .ok (.iaload, 1) := by decide +kernel
theorem dX6_neededOf_24 : decode cX6_neededOf 24 = .ok (.aload_n 0, 1) := by decide +kernel
theorem dX6_neededOf_25 : decode cX6_neededOf 25 = .ok (.getfield 109, 3) := by decide +kernel
theorem dX6_neededOf_28 : decode cX6_neededOf 28 = .ok (.bipush 7, 2) := by decide +kernel
theorem dX6_neededOf_30 : decode cX6_neededOf 30 = .ok (.iadd, 1) := by decide +kernel
theorem dX6_neededOf_31 : decode cX6_neededOf 31 = .ok (.if_icmp .le 13, 3) := by decide +kernel
theorem dX6_neededOf_34 : decode cX6_neededOf 34 = .ok (.aload_n 0, 1) := by decide +kernel
theorem dX6_neededOf_35 : decode cX6_neededOf 35 = .ok (.getfield 16, 3) := by decide +kernel
theorem dX6_neededOf_38 : decode cX6_neededOf 38 = .ok (.iload 5, 2) := by decide +kernel
theorem dX6_neededOf_40 : decode cX6_neededOf 40 = .ok (.iaload, 1) := by decide +kernel
theorem dX6_neededOf_41 : decode cX6_neededOf 41 = .ok (.goto 10, 3) := by decide +kernel
theorem dX6_neededOf_44 : decode cX6_neededOf 44 = .ok (.aload_n 0, 1) := by decide +kernel
theorem dX6_neededOf_45 : decode cX6_neededOf 45 = .ok (.getfield 109, 3) := by decide +kernel
theorem dX6_neededOf_48 : decode cX6_neededOf 48 = .ok (.bipush 7, 2) := by decide +kernel
theorem dX6_neededOf_50 : decode cX6_neededOf 50 = .ok (.iadd, 1) := by decide +kernel
theorem dX6_neededOf_51 : decode cX6_neededOf 51 = .ok (.iload_n 1, 1) := by decide +kernel
theorem dX6_neededOf_52 : decode cX6_neededOf 52 = .ok (.iload_n 2, 1) := by decide +kernel
theorem dX6_neededOf_53 : decode cX6_neededOf 53 = .ok (.invokevirtual 213, 3) := by decide +kernel
theorem dX6_neededOf_56 : decode cX6_neededOf 56 = .ok (.istore 6, 2) := by decide +kernel
theorem dX6_neededOf_58 : decode cX6_neededOf 58 = .ok (.iload 6, 2) := by decide +kernel
theorem dX6_neededOf_60 : decode cX6_neededOf 60 = .ok (.iload 4, 2) := by decide +kernel
theorem dX6_neededOf_62 : decode cX6_neededOf 62 = .ok (.if_icmp .le 8, 3) := by decide +kernel
theorem dX6_neededOf_65 : decode cX6_neededOf 65 = .ok (.iload 5, 2) := by decide +kernel
theorem dX6_neededOf_67 : decode cX6_neededOf 67 = .ok (.goto 4, 3) := by decide +kernel
theorem dX6_neededOf_70 : decode cX6_neededOf 70 = .ok (.iload_n 3, 1) := by decide +kernel
theorem dX6_neededOf_71 : decode cX6_neededOf 71 = .ok (.istore_n 3, 1) := by decide +kernel
theorem dX6_neededOf_72 : decode cX6_neededOf 72 = .ok (.iload 6, 2) := by decide +kernel
theorem dX6_neededOf_74 : decode cX6_neededOf 74 = .ok (.iload 4, 2) := by decide +kernel
theorem dX6_neededOf_76 : decode cX6_neededOf 76 = .ok (.if_icmp .le 8, 3) := by decide +kernel
theorem dX6_neededOf_79 : decode cX6_neededOf 79 = .ok (.iload 6, 2) := by decide +kernel
theorem dX6_neededOf_81 : decode cX6_neededOf 81 = .ok (.goto 5, 3) := by decide +kernel
theorem dX6_neededOf_84 : decode cX6_neededOf 84 = .ok (.iload 4, 2) := by decide +kernel
theorem dX6_neededOf_86 : decode cX6_neededOf 86 = .ok (.istore 4, 2) := by decide +kernel
theorem dX6_neededOf_88 : decode cX6_neededOf 88 = .ok (.iinc 5 1, 3) := by decide +kernel
theorem dX6_neededOf_91 : decode cX6_neededOf 91 = .ok (.goto (-83), 3) := by decide +kernel
theorem dX6_neededOf_94 : decode cX6_neededOf 94 = .ok (.iload_n 3, 1) := by decide +kernel
theorem dX6_neededOf_95 : decode cX6_neededOf 95 = .ok (.ireturn, 1) := by decide +kernel
set_option maxRecDepth 20000 in
theorem ggX6_needed_X6_isShip : GoodIn wsX6_needed wsX6_isShip := goodIn_r _ [5, 6, 7, 8, 4, 9, 58, 59, 60, 61, 62, 63, 64, 65, 66, 67, 68, 69, 70, 71, 72, 73, 74, 75, 76, 77, 78, 79, 80, 81, 82, 83, 84, 85, 86, 87] (by decide +kernel) (by decide +kernel)
set_option maxRecDepth 20000 in
theorem gX6_needed_X6_isShip : GoodIn wsX6_needed (wsV RX6 170 RX6 yX6_isShip wsX6_isShip) := goodIn_app (goodIn_of _ (by decide +kernel)) ggX6_needed_X6_isShip
set_option maxRecDepth 20000 in
theorem ggX6_needed_X6_isCell : GoodIn wsX6_needed wsX6_isCell := goodIn_r _ [13, 14, 15, 16, 17, 4, 18, 6, 7, 8, 9, 58, 59, 60, 61, 62, 63, 64, 65, 66, 67, 68, 69, 70, 71, 72, 73, 74, 75, 76, 77, 78, 79, 80, 81, 82, 83, 84, 85, 86, 87] (by decide +kernel) (by decide +kernel)
set_option maxRecDepth 20000 in
theorem gX6_needed_X6_isCell : GoodIn wsX6_needed (wsV RX6 176 RX6 yX6_isCell wsX6_isCell) := goodIn_app (goodIn_of _ (by decide +kernel)) ggX6_needed_X6_isCell
set_option maxRecDepth 20000 in
theorem ggX6_needed_X6_neededOf : GoodIn wsX6_needed wsX6_neededOf := goodIn_r _ [22, 23, 24, 25, 26, 27, 4, 28, 29, 30, 31, 32, 33, 34, 35, 36, 37, 38, 39, 40, 41, 42, 43, 44, 45, 46, 47, 48, 49, 50, 51, 52, 53, 54, 55, 56, 57, 7, 8, 9, 58, 59, 60, 61, 62, 63, 64, 65, 66, 67, 68, 69, 70, 71, 72, 73, 74, 75, 76, 77, 78, 79, 80, 81, 82, 83, 84, 85, 86, 87] (by decide +kernel) (by decide +kernel)
set_option maxRecDepth 20000 in
theorem gX6_needed_X6_neededOf : GoodIn wsX6_needed (wsV RX6 217 RX6 yX6_neededOf wsX6_neededOf) := goodIn_app (goodIn_of _ (by decide +kernel)) ggX6_needed_X6_neededOf
theorem dX6_needed_0 : decode cX6_needed 0 = .ok (.aload_n 0, 1) := by decide +kernel
theorem dX6_needed_1 : decode cX6_needed 1 = .ok (.iload_n 1, 1) := by decide +kernel
theorem dX6_needed_2 : decode cX6_needed 2 = .ok (.invokevirtual 170, 3) := by decide +kernel
theorem dX6_needed_5 : decode cX6_needed 5 = .ok (.ifCond .eq 20, 3) := by decide +kernel
theorem dX6_needed_8 : decode cX6_needed 8 = .ok (.aload_n 0, 1) := by decide +kernel
theorem dX6_needed_9 : decode cX6_needed 9 = .ok (.iload_n 2, 1) := by decide +kernel
theorem dX6_needed_10 : decode cX6_needed 10 = .ok (.invokevirtual 176, 3) := by decide +kernel
theorem dX6_needed_13 : decode cX6_needed 13 = .ok (.ifCond .eq 12, 3) := by decide +kernel
theorem dX6_needed_16 : decode cX6_needed 16 = .ok (.aload_n 0, 1) := by decide +kernel
theorem dX6_needed_17 : decode cX6_needed 17 = .ok (.iload_n 1, 1) := by decide +kernel
theorem dX6_needed_18 : decode cX6_needed 18 = .ok (.iload_n 2, 1) := by decide +kernel
theorem dX6_needed_19 : decode cX6_needed 19 = .ok (.invokevirtual 217, 3) := by decide +kernel
theorem dX6_needed_22 : decode cX6_needed 22 = .ok (.goto 5, 3) := by decide +kernel
theorem dX6_needed_25 : decode cX6_needed 25 = .ok (.bipush (-101), 2) := by decide +kernel
theorem dX6_needed_27 : decode cX6_needed 27 = .ok (.ireturn, 1) := by decide +kernel
set_option maxRecDepth 20000 in
theorem ggX6_brickOf_X6_soonIf : GoodIn wsX6_brickOf wsX6_soonIf := goodIn_r _ [6, 1, 7, 8, 9, 5, 10, 11, 12, 13, 14, 15, 16, 17, 18, 19, 20, 21, 22, 23, 24, 25, 26, 27, 28, 29, 30, 31, 32, 33, 34, 35, 36, 37, 38, 39, 40, 41, 42, 43, 44, 45, 46, 47, 48, 49, 50, 51, 52, 53, 54, 55, 56, 57, 58, 59, 60, 61, 62, 63, 64, 65, 66, 67, 68, 69] (by decide +kernel) (by decide +kernel)
set_option maxRecDepth 20000 in
theorem gX6_brickOf_X6_soonIf : GoodIn wsX6_brickOf (wsV RX6 213 RX6 yX6_soonIf wsX6_soonIf) := goodIn_app (goodIn_of _ (by decide +kernel)) ggX6_brickOf_X6_soonIf
theorem dX6_brickOf_0 : decode cX6_brickOf 0 = .ok (.iconst (-1), 1) := by decide +kernel
theorem dX6_brickOf_1 : decode cX6_brickOf 1 = .ok (.istore_n 3, 1) := by decide +kernel
theorem dX6_brickOf_2 : decode cX6_brickOf 2 = .ok (.aload_n 0, 1) := by decide +kernel
theorem dX6_brickOf_3 : decode cX6_brickOf 3 = .ok (.iconst 0, 1) := by decide +kernel
theorem dX6_brickOf_4 : decode cX6_brickOf 4 = .ok (.aload_n 0, 1) := by decide +kernel
theorem dX6_brickOf_5 : decode cX6_brickOf 5 = .ok (.getfield 16, 3) := by decide +kernel
theorem dX6_brickOf_8 : decode cX6_brickOf 8 = .ok (.iconst 0, 1) := by decide +kernel
theorem dX6_brickOf_9 : decode cX6_brickOf 9 = .ok (.iaload, 1) := by decide +kernel
theorem dX6_brickOf_10 : decode cX6_brickOf 10 = .ok (.iload_n 1, 1) := by decide +kernel
theorem dX6_brickOf_11 : decode cX6_brickOf 11 = .ok (.iload_n 2, 1) := by decide +kernel
theorem dX6_brickOf_12 : decode cX6_brickOf 12 = .ok (.invokevirtual 213, 3) := by decide +kernel
theorem dX6_brickOf_15 : decode cX6_brickOf 15 = .ok (.istore 4, 2) := by decide +kernel
theorem dX6_brickOf_17 : decode cX6_brickOf 17 = .ok (.iconst 0, 1) := by decide +kernel
theorem dX6_brickOf_18 : decode cX6_brickOf 18 = .ok (.istore 5, 2) := by decide +kernel
theorem dX6_brickOf_20 : decode cX6_brickOf 20 = .ok (.iload 5, 2) := by decide +kernel
theorem dX6_brickOf_22 : decode cX6_brickOf 22 = .ok (.iconst 4, 1) := by decide +kernel
theorem dX6_brickOf_23 : decode cX6_brickOf 23 = .ok (.if_icmp .ge 50, 3) := by decide +kernel
theorem dX6_brickOf_26 : decode cX6_brickOf 26 = .ok (.aload_n 0, 1) := by decide +kernel
theorem dX6_brickOf_27 : decode cX6_brickOf 27 = .ok (.iload 5, 2) := by decide +kernel
theorem dX6_brickOf_29 : decode cX6_brickOf 29 = .ok (.iconst 0, 1) := by decide +kernel
theorem dX6_brickOf_30 : decode cX6_brickOf 30 = .ok (.iload_n 1, 1) := by decide +kernel
theorem dX6_brickOf_31 : decode cX6_brickOf 31 = .ok (.iload_n 2, 1) := by decide +kernel
theorem dX6_brickOf_32 : decode cX6_brickOf 32 = .ok (.invokevirtual 213, 3) := by decide +kernel
theorem dX6_brickOf_35 : decode cX6_brickOf 35 = .ok (.istore 6, 2) := by decide +kernel
theorem dX6_brickOf_37 : decode cX6_brickOf 37 = .ok (.iload 6, 2) := by decide +kernel
theorem dX6_brickOf_39 : decode cX6_brickOf 39 = .ok (.iload 4, 2) := by decide +kernel
theorem dX6_brickOf_41 : decode cX6_brickOf 41 = .ok (.if_icmp .ge 8, 3) := by decide +kernel
theorem dX6_brickOf_44 : decode cX6_brickOf 44 = .ok (.iload 5, 2) := by decide +kernel
theorem dX6_brickOf_46 : decode cX6_brickOf 46 = .ok (.goto 4, 3) := by decide +kernel
theorem dX6_brickOf_49 : decode cX6_brickOf 49 = .ok (.iload_n 3, 1) := by decide +kernel
theorem dX6_brickOf_50 : decode cX6_brickOf 50 = .ok (.istore_n 3, 1) := by decide +kernel
theorem dX6_brickOf_51 : decode cX6_brickOf 51 = .ok (.iload 6, 2) := by decide +kernel
theorem dX6_brickOf_53 : decode cX6_brickOf 53 = .ok (.iload 4, 2) := by decide +kernel
theorem dX6_brickOf_55 : decode cX6_brickOf 55 = .ok (.if_icmp .ge 8, 3) := by decide +kernel
theorem dX6_brickOf_58 : decode cX6_brickOf 58 = .ok (.iload 6, 2) := by decide +kernel
theorem dX6_brickOf_60 : decode cX6_brickOf 60 = .ok (.goto 5, 3) := by decide +kernel
theorem dX6_brickOf_63 : decode cX6_brickOf 63 = .ok (.iload 4, 2) := by decide +kernel
theorem dX6_brickOf_65 : decode cX6_brickOf 65 = .ok (.istore 4, 2) := by decide +kernel
theorem dX6_brickOf_67 : decode cX6_brickOf 67 = .ok (.iinc 5 1, 3) := by decide +kernel
theorem dX6_brickOf_70 : decode cX6_brickOf 70 = .ok (.goto (-50), 3) := by decide +kernel
theorem dX6_brickOf_73 : decode cX6_brickOf 73 = .ok (.iload_n 3, 1) := by decide +kernel
theorem dX6_brickOf_74 : decode cX6_brickOf 74 = .ok (.ireturn, 1) := by decide +kernel
set_option maxRecDepth 20000 in
theorem ggX6_brick_X6_isShip : GoodIn wsX6_brick wsX6_isShip := goodIn_r _ [5, 6, 7, 8, 4, 9, 58, 59, 60, 61, 62, 63, 64, 65, 66, 67, 68, 69, 70, 71, 72, 73, 74, 75, 76, 77, 78, 79, 80, 81, 82, 83, 84, 85, 86, 87] (by decide +kernel) (by decide +kernel)
set_option maxRecDepth 20000 in
theorem gX6_brick_X6_isShip : GoodIn wsX6_brick (wsV RX6 170 RX6 yX6_isShip wsX6_isShip) := goodIn_app (goodIn_of _ (by decide +kernel)) ggX6_brick_X6_isShip
set_option maxRecDepth 20000 in
theorem ggX6_brick_X6_isCell : GoodIn wsX6_brick wsX6_isCell := goodIn_r _ [13, 14, 15, 16, 17, 4, 18, 6, 7, 8, 9, 58, 59, 60, 61, 62, 63, 64, 65, 66, 67, 68, 69, 70, 71, 72, 73, 74, 75, 76, 77, 78, 79, 80, 81, 82, 83, 84, 85, 86, 87] (by decide +kernel) (by decide +kernel)
set_option maxRecDepth 20000 in
theorem gX6_brick_X6_isCell : GoodIn wsX6_brick (wsV RX6 176 RX6 yX6_isCell wsX6_isCell) := goodIn_app (goodIn_of _ (by decide +kernel)) ggX6_brick_X6_isCell
set_option maxRecDepth 20000 in
theorem ggX6_brick_X6_brickOf : GoodIn wsX6_brick wsX6_brickOf := goodIn_r _ [22, 23, 24, 25, 26, 4, 27, 28, 29, 30, 31, 32, 33, 34, 35, 36, 37, 38, 39, 40, 41, 42, 43, 44, 45, 46, 47, 48, 49, 50, 51, 52, 53, 54, 55, 56, 57, 7, 8, 9, 58, 59, 60, 61, 62, 63, 64, 65, 66, 67, 68, 69, 70, 71, 72, 73, 74, 75, 76, 77, 78, 79, 80, 81, 82, 83, 84, 85, 86, 87] (by decide +kernel) (by decide +kernel)
set_option maxRecDepth 20000 in
theorem gX6_brick_X6_brickOf : GoodIn wsX6_brick (wsV RX6 220 RX6 yX6_brickOf wsX6_brickOf) := goodIn_app (goodIn_of _ (by decide +kernel)) ggX6_brick_X6_brickOf
theorem dX6_brick_0 : decode cX6_brick 0 = .ok (.aload_n 0, 1) := by decide +kernel
theorem dX6_brick_1 : decode cX6_brick 1 = .ok (.iload_n 1, 1) := by decide +kernel
theorem dX6_brick_2 : decode cX6_brick 2 = .ok (.invokevirtual 170, 3) := by decide +kernel
theorem dX6_brick_5 : decode cX6_brick 5 = .ok (.ifCond .eq 20, 3) := by decide +kernel
theorem dX6_brick_8 : decode cX6_brick 8 = .ok (.aload_n 0, 1) := by decide +kernel
theorem dX6_brick_9 : decode cX6_brick 9 = .ok (.iload_n 2, 1) := by decide +kernel
theorem dX6_brick_10 : decode cX6_brick 10 = .ok (.invokevirtual 176, 3) := by decide +kernel
theorem dX6_brick_13 : decode cX6_brick 13 = .ok (.ifCond .eq 12, 3) := by decide +kernel
theorem dX6_brick_16 : decode cX6_brick 16 = .ok (.aload_n 0, 1) := by decide +kernel
theorem dX6_brick_17 : decode cX6_brick 17 = .ok (.iload_n 1, 1) := by decide +kernel
theorem dX6_brick_18 : decode cX6_brick 18 = .ok (.iload_n 2, 1) := by decide +kernel
theorem dX6_brick_19 : decode cX6_brick 19 = .ok (.invokevirtual 220, 3) := by decide +kernel
theorem dX6_brick_22 : decode cX6_brick 22 = .ok (.goto 5, 3) := by decide +kernel
theorem dX6_brick_25 : decode cX6_brick 25 = .ok (.bipush (-101), 2) := by decide +kernel
theorem dX6_brick_27 : decode cX6_brick 27 = .ok (.ireturn, 1) := by decide +kernel
set_option maxRecDepth 20000 in
theorem ggX6_asideOf_X6_reach : GoodIn wsX6_asideOf wsX6_reach := goodIn_r _ [7, 8, 9, 10, 11, 6, 12, 13, 14, 15, 16, 17, 18, 19, 20, 21, 22, 1, 23, 24, 25, 26, 27, 28, 29, 30, 31, 32, 33, 34, 35, 36, 37, 38, 39, 40, 41, 42, 43, 44, 45, 46, 47, 48, 49, 50, 51, 52, 53, 54, 55, 56, 57, 58, 59, 60, 61, 62, 63, 64, 65, 66] (by decide +kernel) (by decide +kernel)
set_option maxRecDepth 20000 in
theorem gX6_asideOf_X6_reach : GoodIn wsX6_asideOf (wsV RX6 192 RX6 yX6_reach wsX6_reach) := goodIn_app (goodIn_of _ (by decide +kernel)) ggX6_asideOf_X6_reach
theorem dX6_asideOf_0 : decode cX6_asideOf 0 = .ok (.aload_n 0, 1) := by decide +kernel
theorem dX6_asideOf_1 : decode cX6_asideOf 1 = .ok (.getfield 112, 3) := by decide +kernel
theorem dX6_asideOf_4 : decode cX6_asideOf 4 = .ok (.istore_n 3, 1) := by decide +kernel
theorem dX6_asideOf_5 : decode cX6_asideOf 5 = .ok (.aload_n 0, 1) := by decide +kernel
theorem dX6_asideOf_6 : decode cX6_asideOf 6 = .ok (.iconst 1, 1) := by decide +kernel
theorem dX6_asideOf_7 : decode cX6_asideOf 7 = .ok (.putfield 112, 3) := by decide +kernel
theorem dX6_asideOf_10 : decode cX6_asideOf 10 = .ok (.aload_n 0, 1) := by decide +kernel
theorem dX6_asideOf_11 : decode cX6_asideOf 11 = .ok (.iload_n 1, 1) := by decide +kernel
theorem dX6_asideOf_12 : decode cX6_asideOf 12 = .ok (.iload_n 2, 1) := by decide +kernel
theorem dX6_asideOf_13 : decode cX6_asideOf 13 = .ok (.invokevirtual 192, 3) := by decide +kernel
theorem dX6_asideOf_16 : decode cX6_asideOf 16 = .ok (.lstore 4, 2) := by decide +kernel
theorem dX6_asideOf_18 : decode cX6_asideOf 18 = .ok (.aload_n 0, 1) := by decide +kernel
theorem dX6_asideOf_19 : decode cX6_asideOf 19 = .ok (.iconst 0, 1) := by decide +kernel
theorem dX6_asideOf_20 : decode cX6_asideOf 20 = .ok (.putfield 112, 3) := by decide +kernel
theorem dX6_asideOf_23 : decode cX6_asideOf 23 = .ok (.aload_n 0, 1) := by decide +kernel
theorem dX6_asideOf_24 : decode cX6_asideOf 24 = .ok (.iload_n 1, 1) := by decide +kernel
theorem dX6_asideOf_25 : decode cX6_asideOf 25 = .ok (.iload_n 2, 1) := by decide +kernel
theorem dX6_asideOf_26 : decode cX6_asideOf 26 = .ok (.invokevirtual 192, 3) := by decide +kernel
theorem dX6_asideOf_29 : decode cX6_asideOf 29 = .ok (.lstore 6, 2) := by decide +kernel
theorem dX6_asideOf_31 : decode cX6_asideOf 31 = .ok (.aload_n 0, 1) := by decide +kernel
theorem dX6_asideOf_32 : decode cX6_asideOf 32 = .ok (.iload_n 3, 1) := by decide +kernel
theorem dX6_asideOf_33 : decode cX6_asideOf 33 = .ok (.putfield 112, 3) := by decide +kernel
theorem dX6_asideOf_36 : decode cX6_asideOf 36 = .ok (.iconst 0, 1) := by decide +kernel
theorem dX6_asideOf_37 : decode cX6_asideOf 37 = .ok (.istore 8, 2) := by decide +kernel
theorem dX6_asideOf_39 : decode cX6_asideOf 39 = .ok (.iconst 0, 1) := by decide +kernel
theorem dX6_asideOf_40 : decode cX6_asideOf 40 = .ok (.istore 9, 2) := by decide +kernel
theorem dX6_asideOf_42 : decode cX6_asideOf 42 = .ok (.iload 9, 2) := by decide +kernel
theorem dX6_asideOf_44 : decode cX6_asideOf 44 = .ok (.bipush 36, 2) := by decide +kernel
theorem dX6_asideOf_46 : decode cX6_asideOf 46 = .ok (.if_icmp .ge 30, 3) := by decide +kernel
theorem dX6_asideOf_49 : decode cX6_asideOf 49 = .ok (.iload 8, 2) := by decide +kernel
theorem dX6_asideOf_51 : decode cX6_asideOf 51 = .ok (.i2l, 1) := by decide +kernel
theorem dX6_asideOf_52 : decode cX6_asideOf 52 = .ok (.lload 4, 2) := by decide +kernel
theorem dX6_asideOf_54 : decode cX6_asideOf 54 = .ok (.lload 6, 2) := by decide +kernel
theorem dX6_asideOf_56 : decode cX6_asideOf 56 = .ok (.ldc2_w 223, 3) := by decide +kernel
theorem dX6_asideOf_59 : decode cX6_asideOf 59 = .ok (.lxor, 1) := by decide +kernel
theorem dX6_asideOf_60 : decode cX6_asideOf 60 = .ok (.land, 1) := by decide +kernel
theorem dX6_asideOf_61 : decode cX6_asideOf 61 = .ok (.iload 9, 2) := by decide +kernel
theorem dX6_asideOf_63 : decode cX6_asideOf 63 = .ok (.lshr, 1) := by decide +kernel
theorem dX6_asideOf_64 : decode cX6_asideOf 64 = .ok (.lconst 1, 1) := by decide +kernel
theorem dX6_asideOf_65 : decode cX6_asideOf 65 = .ok (.land, 1) := by decide +kernel
theorem dX6_asideOf_66 : decode cX6_asideOf 66 = .ok (.ladd, 1) := by decide +kernel
theorem dX6_asideOf_67 : decode cX6_asideOf 67 = .ok (.l2i, 1) := by decide +kernel
theorem dX6_asideOf_68 : decode cX6_asideOf 68 = .ok (.istore 8, 2) := by decide +kernel
theorem dX6_asideOf_70 : decode cX6_asideOf 70 = .ok (.iinc 9 1, 3) := by decide +kernel
theorem dX6_asideOf_73 : decode cX6_asideOf 73 = .ok (.goto (-31), 3) := by decide +kernel
theorem dX6_asideOf_76 : decode cX6_asideOf 76 = .ok (.iload 8, 2) := by decide +kernel
theorem dX6_asideOf_78 : decode cX6_asideOf 78 = .ok (.ireturn, 1) := by decide +kernel
set_option maxRecDepth 20000 in
theorem ggX6_aside_X6_isShip : GoodIn wsX6_aside wsX6_isShip := goodIn_r _ [6, 7, 8, 9, 5, 10, 47, 48, 49, 50, 51, 52, 53, 54, 55, 56, 57, 58, 59, 60, 61, 62, 63, 64, 65, 66, 67, 68, 69, 70, 71, 72, 73, 74, 75, 76] (by decide +kernel) (by decide +kernel)
set_option maxRecDepth 20000 in
theorem gX6_aside_X6_isShip : GoodIn wsX6_aside (wsV RX6 170 RX6 yX6_isShip wsX6_isShip) := goodIn_app (goodIn_of _ (by decide +kernel)) ggX6_aside_X6_isShip
set_option maxRecDepth 20000 in
theorem ggX6_aside_X6_in : GoodIn wsX6_aside wsX6_in := goodIn_r _ [10] (by decide +kernel) (by decide +kernel)
set_option maxRecDepth 20000 in
theorem gX6_aside_X6_in : GoodIn wsX6_aside (va_wsS RX6 56 yX6_in wsX6_in) := goodIn_app (goodIn_of _ (by decide +kernel)) ggX6_aside_X6_in
set_option maxRecDepth 20000 in
theorem ggX6_aside_X6_asideOf : GoodIn wsX6_aside wsX6_asideOf := goodIn_r _ [14, 15, 16, 17, 18, 19, 5, 20, 21, 22, 23, 24, 25, 26, 27, 28, 29, 30, 31, 32, 33, 34, 35, 36, 37, 38, 39, 40, 41, 42, 43, 44, 45, 46, 8, 9, 10, 47, 48, 49, 50, 51, 52, 53, 54, 55, 56, 57, 58, 59, 60, 61, 62, 63, 64, 65, 66, 67, 68, 69, 70, 71, 72, 73, 74, 75, 76] (by decide +kernel) (by decide +kernel)
set_option maxRecDepth 20000 in
theorem gX6_aside_X6_asideOf : GoodIn wsX6_aside (wsV RX6 227 RX6 yX6_asideOf wsX6_asideOf) := goodIn_app (goodIn_of _ (by decide +kernel)) ggX6_aside_X6_asideOf
theorem dX6_aside_0 : decode cX6_aside 0 = .ok (.aload_n 0, 1) := by decide +kernel
theorem dX6_aside_1 : decode cX6_aside 1 = .ok (.iload_n 1, 1) := by decide +kernel
theorem dX6_aside_2 : decode cX6_aside 2 = .ok (.invokevirtual 170, 3) := by decide +kernel
theorem dX6_aside_5 : decode cX6_aside 5 = .ok (.ifCond .ne 6, 3) := by decide +kernel
theorem dX6_aside_8 : decode cX6_aside 8 = .ok (.bipush (-101), 2) := by decide +kernel
theorem dX6_aside_10 : decode cX6_aside 10 = .ok (.ireturn, 1) := by decide +kernel
theorem dX6_aside_11 : decode cX6_aside 11 = .ok (.iload_n 2, 1) := by decide +kernel
theorem dX6_aside_12 : decode cX6_aside 12 = .ok (.i2l, 1) := by decide +kernel
theorem dX6_aside_13 : decode cX6_aside 13 = .ok (.lconst 0, 1) := by decide +kernel
theorem dX6_aside_14 : decode cX6_aside 14 = .ok (.ldc2_w 225, 3) := by decide +kernel
theorem dX6_aside_17 : decode cX6_aside 17 = .ok (.invokestatic 56, 3) := by decide +kernel
theorem dX6_aside_20 : decode cX6_aside 20 = .ok (.ifCond .eq 12, 3) := by decide +kernel
theorem dX6_aside_23 : decode cX6_aside 23 = .ok (.aload_n 0, 1) := by decide +kernel
theorem dX6_aside_24 : decode cX6_aside 24 = .ok (.iload_n 1, 1) := by decide +kernel
theorem dX6_aside_25 : decode cX6_aside 25 = .ok (.iload_n 2, 1) := by decide +kernel
theorem dX6_aside_26 : decode cX6_aside 26 = .ok (.invokevirtual 227, 3) := by decide +kernel
theorem dX6_aside_29 : decode cX6_aside 29 = .ok (.goto 5, 3) := by decide +kernel
theorem dX6_aside_32 : decode cX6_aside 32 = .ok (.bipush (-102), 2) := by decide +kernel
theorem dX6_aside_34 : decode cX6_aside 34 = .ok (.ireturn, 1) := by decide +kernel
set_option maxRecDepth 20000 in
theorem ggX6_see_X6_isLodger : GoodIn wsX6_see wsX6_isLodger := goodIn_r _ [8, 9, 10, 11, 12, 7, 13, 14, 15, 16, 17, 18, 19, 20, 21, 22, 23, 24, 25, 26, 27, 28, 29, 30, 31, 32, 33, 34, 35, 36, 37, 38, 39, 40, 41, 42, 43, 44, 45, 46, 47] (by decide +kernel) (by decide +kernel)
set_option maxRecDepth 20000 in
theorem gX6_see_X6_isLodger : GoodIn wsX6_see (wsV RX6 155 RX6 yX6_isLodger wsX6_isLodger) := goodIn_app (goodIn_of _ (by decide +kernel)) ggX6_see_X6_isLodger
set_option maxRecDepth 20000 in
theorem ggX6_see_X6_in : GoodIn wsX6_see wsX6_in := goodIn_r _ [17] (by decide +kernel) (by decide +kernel)
set_option maxRecDepth 20000 in
theorem gX6_see_X6_in : GoodIn wsX6_see (va_wsS RX6 56 yX6_in wsX6_in) := goodIn_app (goodIn_of _ (by decide +kernel)) ggX6_see_X6_in
theorem dX6_see_0 : decode cX6_see 0 = .ok (.aload_n 0, 1) := by decide +kernel
theorem dX6_see_1 : decode cX6_see 1 = .ok (.iload_n 1, 1) := by decide +kernel
theorem dX6_see_2 : decode cX6_see 2 = .ok (.invokevirtual 155, 3) := by decide +kernel
theorem dX6_see_5 : decode cX6_see 5 = .ok (.ifCond .ne 6, 3) := by decide +kernel
theorem dX6_see_8 : decode cX6_see 8 = .ok (.bipush (-101), 2) := by decide +kernel
theorem dX6_see_10 : decode cX6_see 10 = .ok (.ireturn, 1) := by decide +kernel
theorem dX6_see_11 : decode cX6_see 11 = .ok (.iload_n 2, 1) := by decide +kernel
theorem dX6_see_12 : decode cX6_see 12 = .ok (.i2l, 1) := by decide +kernel
theorem dX6_see_13 : decode cX6_see 13 = .ok (.lconst 0, 1) := by decide +kernel
theorem dX6_see_14 : decode cX6_see 14 = .ok (.ldc2_w 225, 3) := by decide +kernel
theorem dX6_see_17 : decode cX6_see 17 = .ok (.invokestatic 56, 3) := by decide +kernel
theorem dX6_see_20 : decode cX6_see 20 = .ok (.ifCond .ne 6, 3) := by decide +kernel
theorem dX6_see_23 : decode cX6_see 23 = .ok (.bipush (-102), 2) := by decide +kernel
theorem dX6_see_25 : decode cX6_see 25 = .ok (.ireturn, 1) := by decide +kernel
theorem dX6_see_26 : decode cX6_see 26 = .ok (.aload_n 0, 1) := by decide +kernel
theorem dX6_see_27 : decode cX6_see 27 = .ok (.getfield 119, 3) := by decide +kernel
theorem dX6_see_30 : decode cX6_see 30 = .ok (.bipush 6, 2) := by decide +kernel
theorem dX6_see_32 : decode cX6_see 32 = .ok (.if_icmp .ne 6, 3) := by decide +kernel
theorem dX6_see_35 : decode cX6_see 35 = .ok (.bipush (-104), 2) := by decide +kernel
theorem dX6_see_37 : decode cX6_see 37 = .ok (.ireturn, 1) := by decide +kernel
theorem dX6_see_38 : decode cX6_see 38 = .ok (.aload_n 0, 1) := by decide +kernel
theorem dX6_see_39 : decode cX6_see 39 = .ok (.getfield 29, 3) := by decide +kernel
theorem dX6_see_42 : decode cX6_see 42 = .ok (.iconst 3, 1) := by decide +kernel
theorem dX6_see_43 : decode cX6_see 43 = .ok (.aload_n 0, 1) := by decide +kernel
theorem dX6_see_44 : decode cX6_see 44 = .ok (.getfield 119, 3) := by decide +kernel
theorem dX6_see_47 : decode cX6_see 47 = .ok (.imul, 1) := by decide +kernel
theorem dX6_see_48 : decode cX6_see 48 = .ok (.iload_n 1, 1) := by decide +kernel
theorem dX6_see_49 : decode cX6_see 49 = .ok (.iastore, 1) := by decide +kernel
theorem dX6_see_50 : decode cX6_see 50 = .ok (.aload_n 0, 1) := by decide +kernel
theorem dX6_see_51 : decode cX6_see 51 = .ok (.getfield 29, 3) := by decide +kernel
theorem dX6_see_54 : decode cX6_see 54 = .ok (.iconst 3, 1) := by decide +kernel
theorem dX6_see_55 : decode cX6_see 55 = .ok (.aload_n 0, 1) := by decide +kernel
theorem dX6_see_56 : decode cX6_see 56 = .ok (.getfield 119, 3) := by decide +kernel
theorem dX6_see_59 : decode cX6_see 59 = .ok (.imul, 1) := by decide +kernel
theorem dX6_see_60 : decode cX6_see 60 = .ok (.iconst 1, 1) := by decide +kernel
theorem dX6_see_61 : decode cX6_see 61 = .ok (.iadd, 1) := by decide +kernel
theorem dX6_see_62 : decode cX6_see 62 = .ok (.iload_n 2, 1) := by decide +kernel
theorem dX6_see_63 : decode cX6_see 63 = .ok (.iastore, 1) := by decide +kernel
theorem dX6_see_64 : decode cX6_see 64 = .ok (.aload_n 0, 1) := by decide +kernel
theorem dX6_see_65 : decode cX6_see 65 = .ok (.getfield 29, 3) := by decide +kernel
theorem dX6_see_68 : decode cX6_see 68 = .ok (.iconst 3, 1) := by decide +kernel
theorem dX6_see_69 : decode cX6_see 69 = .ok (.aload_n 0, 1) := by decide +kernel
theorem dX6_see_70 : decode cX6_see 70 = .ok (.getfield 119, 3) := by decide +kernel
theorem dX6_see_73 : decode cX6_see 73 = .ok (.imul, 1) := by decide +kernel
theorem dX6_see_74 : decode cX6_see 74 = .ok (.iconst 2, 1) := by decide +kernel
theorem dX6_see_75 : decode cX6_see 75 = .ok (.iadd, 1) := by decide +kernel
theorem dX6_see_76 : decode cX6_see 76 = .ok (.iload_n 3, 1) := by decide +kernel
theorem dX6_see_77 : decode cX6_see 77 = .ok (.ifCond .eq 7, 3) := by decide +kernel
theorem dX6_see_80 : decode cX6_see 80 = .ok (.iconst 1, 1) := by decide +kernel
theorem dX6_see_81 : decode cX6_see 81 = .ok (.goto 4, 3) := by decide +kernel
theorem dX6_see_84 : decode cX6_see 84 = .ok (.iconst 0, 1) := by decide +kernel
theorem dX6_see_85 : decode cX6_see 85 = .ok (.iastore, 1) := by decide +kernel
theorem dX6_see_86 : decode cX6_see 86 = .ok (.aload_n 0, 1) := by decide +kernel
theorem dX6_see_87 : decode cX6_see 87 = .ok (.dup, 1) := by decide +kernel
theorem dX6_see_88 : decode cX6_see 88 = .ok (.getfield 119, 3) := by decide +kernel
theorem dX6_see_91 : decode cX6_see 91 = .ok (.iconst 1, 1) := by decide +kernel
theorem dX6_see_92 : decode cX6_see 92 = .ok (.iadd, 1) := by decide +kernel
theorem dX6_see_93 : decode cX6_see 93 = .ok (.putfield 119, 3) := by decide +kernel
theorem dX6_see_96 : decode cX6_see 96 = .ok (.aload_n 0, 1) := by decide +kernel
theorem dX6_see_97 : decode cX6_see 97 = .ok (.getfield 119, 3) := by decide +kernel
theorem dX6_see_100 : decode cX6_see 100 = .ok (.ireturn, 1) := by decide +kernel
theorem dX6_forget_0 : decode cX6_forget 0 = .ok (.aload_n 0, 1) := by decide +kernel
theorem dX6_forget_1 : decode cX6_forget 1 = .ok (.getfield 119, 3) := by decide +kernel
theorem dX6_forget_4 : decode cX6_forget 4 = .ok (.istore_n 1, 1) := by decide +kernel
theorem dX6_forget_5 : decode cX6_forget 5 = .ok (.aload_n 0, 1) := by decide +kernel
theorem dX6_forget_6 : decode cX6_forget 6 = .ok (.iconst 0, 1) := by decide +kernel
theorem dX6_forget_7 : decode cX6_forget 7 = .ok (.putfield 119, 3) := by decide +kernel
theorem dX6_forget_10 : decode cX6_forget 10 = .ok (.iload_n 1, 1) := by decide +kernel
theorem dX6_forget_11 : decode cX6_forget 11 = .ok (.ireturn, 1) := by decide +kernel
set_option maxRecDepth 20000 in
theorem ggX6_upIf_X6_isUpBy : GoodIn wsX6_upIf wsX6_isUpBy := goodIn_r _ [6] (by decide +kernel) (by decide +kernel)
set_option maxRecDepth 20000 in
theorem gX6_upIf_X6_isUpBy : GoodIn wsX6_upIf (va_wsS RX6 133 yX6_isUpBy wsX6_isUpBy) := goodIn_app (goodIn_of _ (by decide +kernel)) ggX6_upIf_X6_isUpBy
theorem dX6_upIf_0 : decode cX6_upIf 0 = .ok (.iload_n 2, 1) := by decide +kernel
theorem dX6_upIf_1 : decode cX6_upIf 1 = .ok (.aload_n 0, 1) := by decide +kernel
theorem dX6_upIf_2 : decode cX6_upIf 2 = .ok (.getfield 109, 3) := by decide +kernel
theorem dX6_upIf_5 : decode cX6_upIf 5 = .ok (.iload_n 3, 1) := by decide +kernel
theorem dX6_upIf_6 : decode cX6_upIf 6 = .ok (.iadd, 1) := by decide +kernel
theorem dX6_upIf_7 : decode cX6_upIf 7 = .ok (.aload_n 0, 1) := by decide +kernel
theorem dX6_upIf_8 : decode cX6_upIf 8 = .ok (.getfield 16, 3) := by decide +kernel
theorem dX6_upIf_11 : decode cX6_upIf 11 = .ok (.iload_n 1, 1) := by decide +kernel
theorem dX6_upIf_12 : decode cX6_upIf 12 = .ok (.iaload, 1) := by decide +kernel
theorem dX6_upIf_13 : decode cX6_upIf 13 = .ok (.if_icmp .ge 7, 3) := by decide +kernel
theorem dX6_upIf_16 : decode cX6_upIf 16 = .ok (.iconst 1, 1) := by decide +kernel
theorem dX6_upIf_17 : decode cX6_upIf 17 = .ok (.goto 4, 3) := by decide +kernel
theorem dX6_upIf_20 : decode cX6_upIf 20 = .ok (.iconst 0, 1) := by decide +kernel
theorem dX6_upIf_21 : decode cX6_upIf 21 = .ok (.aload_n 0, 1) := by decide +kernel
theorem dX6_upIf_22 : decode cX6_upIf 22 = .ok (.getfield 109, 3) := by decide +kernel
theorem dX6_upIf_25 : decode cX6_upIf 25 = .ok (.iload_n 3, 1) := by decide +kernel
theorem dX6_upIf_26 : decode cX6_upIf 26 = .ok (.iadd, 1) := by decide +kernel
theorem dX6_upIf_27 : decode cX6_upIf 27 = .ok (.invokestatic 133, 3) := by decide +kernel
theorem dX6_upIf_30 : decode cX6_upIf 30 = .ok (.ifCond .eq 7, 3) := by decide +kernel
theorem dX6_upIf_33 : decode cX6_upIf 33 = .ok (.iconst 1, 1) := by decide +kernel
theorem dX6_upIf_34 : decode cX6_upIf 34 = .ok (.goto 4, 3) := by decide +kernel
theorem dX6_upIf_37 : decode cX6_upIf 37 = .ok (.iconst 0, 1) := by decide +kernel
theorem dX6_upIf_38 : decode cX6_upIf 38 = .ok (.ireturn, 1) := by decide +kernel
set_option maxRecDepth 20000 in
theorem ggX6_kindsOf_X6_upIf : GoodIn wsX6_kindsOf wsX6_upIf := goodIn_r _ [7, 8, 9, 10, 11, 6, 12, 13, 14, 15, 16, 17, 18, 19, 20, 21, 22, 23, 24, 25, 26, 27, 28, 29, 30, 31, 32, 33, 34, 35, 36, 37, 38, 39, 40, 41, 42] (by decide +kernel) (by decide +kernel)
set_option maxRecDepth 20000 in
theorem gX6_kindsOf_X6_upIf : GoodIn wsX6_kindsOf (wsV RX6 230 RX6 yX6_upIf wsX6_upIf) := goodIn_app (goodIn_of _ (by decide +kernel)) ggX6_kindsOf_X6_upIf
theorem dX6_kindsOf_0 : decode cX6_kindsOf 0 = .ok (.iconst 0, 1) := by decide +kernel
theorem dX6_kindsOf_1 : decode cX6_kindsOf 1 = .ok (.istore_n 2, 1) := by decide +kernel
theorem dX6_kindsOf_2 : decode cX6_kindsOf 2 = .ok (.iconst 0, 1) := by decide +kernel
theorem dX6_kindsOf_3 : decode cX6_kindsOf 3 = .ok (.istore_n 3, 1) := by decide +kernel
theorem dX6_kindsOf_4 : decode cX6_kindsOf 4 = .ok (.iload_n 3, 1) := by decide +kernel
theorem dX6_kindsOf_5 : decode cX6_kindsOf 5 = .ok (.iconst 5, 1) := by decide +kernel
theorem dX6_kindsOf_6 : decode cX6_kindsOf 6 = .ok (.if_icmp .ge 97, 3) := by decide +kernel
theorem dX6_kindsOf_9 : decode cX6_kindsOf 9 = .ok (.iconst 1, 1) := by decide +kernel
theorem dX6_kindsOf_10 : decode cX6_kindsOf 10 = .ok (.istore 4, 2) := by decide +kernel
theorem dX6_kindsOf_12 : decode cX6_kindsOf 12 = .ok (.iconst 0, 1) := by decide +kernel
theorem dX6_kindsOf_13 : decode cX6_kindsOf 13 = .ok (.istore 5, 2) := by decide +kernel
theorem dX6_kindsOf_15 : decode cX6_kindsOf 15 = .ok (.iload 5, 2) := by decide +kernel
theorem dX6_kindsOf_17 : decode cX6_kindsOf 17 = .ok (.iconst 3, 1) := by decide +kernel
theorem dX6_kindsOf_18 : decode cX6_kindsOf 18 = .ok (.aload_n 0, 1) := by decide +kernel
theorem dX6_kindsOf_19 : decode cX6_kindsOf 19 = .ok (.getfield 119, 3) := by decide +kernel
theorem dX6_kindsOf_22 : decode cX6_kindsOf 22 = .ok (.imul, 1) := by decide +kernel
theorem dX6_kindsOf_23 : decode cX6_kindsOf 23 = .ok (.if_icmp .ge 59, 3) := by decide +kernel
theorem dX6_kindsOf_26 : decode cX6_kindsOf 26 = .ok (.iload 4, 2) := by decide +kernel
theorem dX6_kindsOf_28 : decode cX6_kindsOf 28 = .ok (.ifCond .eq 45, 3) := by decide +kernel
theorem dX6_kindsOf_31 : decode cX6_kindsOf 31 = .ok (.aload_n 0, 1) := by decide +kernel
theorem dX6_kindsOf_32 : decode cX6_kindsOf 32 = .ok (.getfield 29, 3) := by decide +kernel
theorem dX6_kindsOf_35 : decode cX6_kindsOf 35 = .ok (.iload 5, 2) := by decide +kernel
theorem dX6_kindsOf_37 : decode cX6_kindsOf 37 = .ok (.iaload, 1) := by decide +kernel
theorem dX6_kindsOf_38 : decode cX6_kindsOf 38 = .ok (.iload_n 1, 1) := by decide +kernel
theorem dX6_kindsOf_39 : decode cX6_kindsOf 39 = .ok (.if_icmp .ne 30, 3) := by decide +kernel
theorem dX6_kindsOf_42 : decode cX6_kindsOf 42 = .ok (.aload_n 0, 1) := by decide +kernel
theorem dX6_kindsOf_43 : decode cX6_kindsOf 43 = .ok (.iload_n 1, 1) := by decide +kernel
theorem dX6_kindsOf_44 : decode cX6_kindsOf 44 = .ok (.iload_n 3, 1) := by decide +kernel
theorem dX6_kindsOf_45 : decode cX6_kindsOf 45 = .ok (.aload_n 0, 1) := by decide +kernel
theorem dX6_kindsOf_46 : decode cX6_kindsOf 46 = .ok (.getfield 29, 3) := by decide +kernel
theorem dX6_kindsOf_49 : decode cX6_kindsOf 49 = .ok (.iload 5, 2) := by decide +kernel
theorem dX6_kindsOf_51 : decode cX6_kindsOf 51 = .ok (.iconst 1, 1) := by decide +kernel
theorem dX6_kindsOf_52 : decode cX6_kindsOf 52 = .ok (.iadd, 1) := by decide +kernel
theorem dX6_kindsOf_53 : decode cX6_kindsOf 53 = .ok (.iaload, 1) := by decide +kernel
theorem dX6_kindsOf_54 : decode cX6_kindsOf 54 = .ok (.invokevirtual 230, 3) := by decide +kernel
theorem dX6_kindsOf_57 : decode cX6_kindsOf 57 = .ok (.aload_n 0, 1) := by decide +kernel
theorem dX6_kindsOf_58 : decode cX6_kindsOf 58 = .ok (.getfield 29, 3) := by decide +kernel
theorem dX6_kindsOf_61 : decode cX6_kindsOf 61 = .ok (.iload 5, 2) := by decide +kernel
theorem dX6_kindsOf_63 : decode cX6_kindsOf 63 = .ok (.iconst 2, 1) := by decide +kernel
theorem dX6_kindsOf_64 : decode cX6_kindsOf 64 = .ok (.iadd, 1) := by decide +kernel
theorem dX6_kindsOf_65 : decode cX6_kindsOf 65 = .ok (.iaload, 1) := by decide +kernel
theorem dX6_kindsOf_66 : decode cX6_kindsOf 66 = .ok (.if_icmp .ne 7, 3) := by decide +kernel
theorem dX6_kindsOf_69 : decode cX6_kindsOf 69 = .ok (.iconst 1, 1) := by decide +kernel
theorem dX6_kindsOf_70 : decode cX6_kindsOf 70 = .ok (.goto 4, 3) := by decide +kernel
theorem dX6_kindsOf_73 : decode cX6_kindsOf 73 = .ok (.iconst 0, 1) := by decide +kernel
theorem dX6_kindsOf_74 : decode cX6_kindsOf 74 = .ok (.istore 4, 2) := by decide +kernel
theorem dX6_kindsOf_76 : decode cX6_kindsOf 76 = .ok (.iinc 5 3, 3) := by decide +kernel
theorem dX6_kindsOf_79 : decode cX6_kindsOf 79 = .ok (.goto (-64), 3) := by decide +kernel
theorem dX6_kindsOf_82 : decode cX6_kindsOf 82 = .ok (.iload_n 2, 1) := by decide +kernel
theorem dX6_kindsOf_83 : decode cX6_kindsOf 83 = .ok (.iload 4, 2) := by decide +kernel
theorem dX6_kindsOf_85 : decode cX6_kindsOf 85 = .ok (.ifCond .eq 9, 3) := by decide +kernel
theorem dX6_kindsOf_88 : decode cX6_kindsOf 88 = .ok (.iconst 1, 1) := by decide +kernel
theorem dX6_kindsOf_89 : decode cX6_kindsOf 89 = .ok (.iload_n 3, 1) := by decide +kernel
theorem dX6_kindsOf_90 : decode cX6_kindsOf 90 = .ok (.ishl, 1) := by decide +kernel
theorem dX6_kindsOf_91 : decode cX6_kindsOf 91 = .ok (.goto 4, 3) := by decide +kernel
theorem dX6_kindsOf_94 : decode cX6_kindsOf 94 = .ok (.iconst 0, 1) := by decide +kernel
theorem dX6_kindsOf_95 : decode cX6_kindsOf 95 = .ok (.ior, 1) := by decide +kernel
theorem dX6_kindsOf_96 : decode cX6_kindsOf 96 = .ok (.istore_n 2, 1) := by decide +kernel
theorem dX6_kindsOf_97 : decode cX6_kindsOf 97 = .ok (.iinc 3 1, 3) := by decide +kernel
theorem dX6_kindsOf_100 : decode cX6_kindsOf 100 = .ok (.goto (-96), 3) := by decide +kernel
theorem dX6_kindsOf_103 : decode cX6_kindsOf 103 = .ok (.iload_n 2, 1) := by decide +kernel
theorem dX6_kindsOf_104 : decode cX6_kindsOf 104 = .ok (.ireturn, 1) := by decide +kernel
set_option maxRecDepth 20000 in
theorem ggX6_lookOf_X6_kindsOf : GoodIn wsX6_lookOf wsX6_kindsOf := goodIn_r _ [5, 6, 7, 8, 9, 10, 4, 11, 12, 13, 14, 15, 16, 17, 18, 19, 20, 21, 22, 23, 24, 25, 26, 27, 28, 29, 30, 31, 32, 33, 34, 35, 36, 37, 38, 39, 40, 41, 42, 43, 44, 45, 46] (by decide +kernel) (by decide +kernel)
set_option maxRecDepth 20000 in
theorem gX6_lookOf_X6_kindsOf : GoodIn wsX6_lookOf (wsV RX6 146 RX6 yX6_kindsOf wsX6_kindsOf) := goodIn_app (goodIn_of _ (by decide +kernel)) ggX6_lookOf_X6_kindsOf
set_option maxRecDepth 20000 in
theorem ggX6_lookOf_X6_upIf : GoodIn wsX6_lookOf wsX6_upIf := goodIn_r _ [11, 12, 13, 14, 15, 4, 16, 17, 18, 19, 20, 21, 22, 23, 24, 25, 26, 27, 28, 29, 30, 31, 32, 33, 34, 35, 36, 37, 38, 39, 40, 41, 42, 43, 44, 45, 46] (by decide +kernel) (by decide +kernel)
set_option maxRecDepth 20000 in
theorem gX6_lookOf_X6_upIf : GoodIn wsX6_lookOf (wsV RX6 230 RX6 yX6_upIf wsX6_upIf) := goodIn_app (goodIn_of _ (by decide +kernel)) ggX6_lookOf_X6_upIf
theorem dX6_lookOf_0 : decode cX6_lookOf 0 = .ok (.aload_n 0, 1) := by decide +kernel
theorem dX6_lookOf_1 : decode cX6_lookOf 1 = .ok (.iload_n 1, 1) := by decide +kernel
theorem dX6_lookOf_2 : decode cX6_lookOf 2 = .ok (.invokevirtual 146, 3) := by decide +kernel
theorem dX6_lookOf_5 : decode cX6_lookOf 5 = .ok (.istore_n 2, 1) := by decide +kernel
theorem dX6_lookOf_6 : decode cX6_lookOf 6 = .ok (.iconst (-1), 1) := by decide +kernel
theorem dX6_lookOf_7 : decode cX6_lookOf 7 = .ok (.istore_n 3, 1) := by decide +kernel
theorem dX6_lookOf_8 : decode cX6_lookOf 8 = .ok (.bipush 6, 2) := by decide +kernel
theorem dX6_lookOf_10 : decode cX6_lookOf 10 = .ok (.istore 4, 2) := by decide +kernel
theorem dX6_lookOf_12 : decode cX6_lookOf 12 = .ok (.iconst 0, 1) := by decide +kernel
theorem dX6_lookOf_13 : decode cX6_lookOf 13 = .ok (.istore 5, 2) := by decide +kernel
theorem dX6_lookOf_15 : decode cX6_lookOf 15 = .ok (.iload 5, 2) := by decide +kernel
theorem dX6_lookOf_17 : decode cX6_lookOf 17 = .ok (.bipush 21, 2) := by decide +kernel
theorem dX6_lookOf_19 : decode cX6_lookOf 19 = .ok (.if_icmp .ge 124, 3) := by decide +kernel
theorem dX6_lookOf_22 : decode cX6_lookOf 22 = .ok (.iload_n 2, 1) := by decide +kernel
theorem dX6_lookOf_23 : decode cX6_lookOf 23 = .ok (.ifCond .eq 120, 3) := by decide +kernel
theorem dX6_lookOf_26 : decode cX6_lookOf 26 = .ok (.iconst 0, 1) := by decide +kernel
theorem dX6_lookOf_27 : decode cX6_lookOf 27 = .ok (.istore 6, 2) := by decide +kernel
theorem dX6_lookOf_29 : decode cX6_lookOf 29 = .ok (.iconst 0, 1) := by decide +kernel
theorem dX6_lookOf_30 : decode cX6_lookOf 30 = .ok (.istore 7, 2) := by decide +kernel
theorem dX6_lookOf_32 : decode cX6_lookOf 32 = .ok (.iconst 0, 1) := by decide +kernel
theorem dX6_lookOf_33 : decode cX6_lookOf 33 = .ok (.istore 8, 2) := by decide +kernel
theorem dX6_lookOf_35 : decode cX6_lookOf 35 = .ok (.iload 8, 2) := by decide +kernel
theorem dX6_lookOf_37 : decode cX6_lookOf 37 = .ok (.iconst 5, 1) := by decide +kernel
theorem dX6_lookOf_38 : decode cX6_lookOf 38 = .ok (.if_icmp .ge 53, 3) := by decide +kernel
theorem dX6_lookOf_41 : decode cX6_lookOf 41 = .ok (.iload_n 2, 1) := by decide +kernel
theorem dX6_lookOf_42 : decode cX6_lookOf 42 = .ok (.iload 8, 2) := by decide +kernel
theorem dX6_lookOf_44 : decode cX6_lookOf 44 = .ok (.ishr, 1) := by decide +kernel
theorem dX6_lookOf_45 : decode cX6_lookOf 45 = .ok (.iconst 1, 1) := by decide +kernel
theorem dX6_lookOf_46 : decode cX6_lookOf 46 = .ok (.iand, 1) := by decide +kernel
theorem dX6_lookOf_47 : decode cX6_lookOf 47 = .ok (.istore 9, 2) := by decide +kernel
theorem dX6_lookOf_49 : decode cX6_lookOf 49 = .ok (.iload 6, 2) := by decide +kernel
theorem dX6_lookOf_51 : decode cX6_lookOf 51 = .ok (.iload 9, 2) := by decide +kernel
theorem dX6_lookOf_53 : decode cX6_lookOf 53 = .ok (.aload_n 0, 1) := by decide +kernel
theorem dX6_lookOf_54 : decode cX6_lookOf 54 = .ok (.iload_n 1, 1) := by decide +kernel
theorem dX6_lookOf_55 : decode cX6_lookOf 55 = .ok (.iload 8, 2) := by decide +kernel
theorem dX6_lookOf_57 : decode cX6_lookOf 57 = .ok (.iload 5, 2) := by decide +kernel
theorem dX6_lookOf_59 : decode cX6_lookOf 59 = .ok (.invokevirtual 230, 3) := by decide +kernel
theorem dX6_lookOf_62 : decode cX6_lookOf 62 = .ok (.imul, 1) := by decide +kernel
theorem dX6_lookOf_63 : decode cX6_lookOf 63 = .ok (.iadd, 1) := by decide +kernel
theorem dX6_lookOf_64 : decode cX6_lookOf 64 = .ok (.istore 6, 2) := by decide +kernel
theorem dX6_lookOf_66 : decode cX6_lookOf 66 = .ok (.iload 7, 2) := by decide +kernel
theorem dX6_lookOf_68 : decode cX6_lookOf 68 = .ok (.iload 9, 2) := by decide +kernel
theorem dX6_lookOf_70 : decode cX6_lookOf 70 = .ok (.iconst 1, 1) := by decide +kernel
theorem dX6_lookOf_71 : decode cX6_lookOf 71 = .ok (.aload_n 0, 1) := by decide +kernel
theorem dX6_lookOf_72 : decode cX6_lookOf 72 = .ok (.iload_n 1, 1) := by decide +kernel
theorem dX6_lookOf_73 : decode cX6_lookOf 73 = .ok (.iload 8, 2) := by decide +kernel
theorem dX6_lookOf_75 : decode cX6_lookOf 75 = .ok (.iload 5, 2) := by decide +kernel
theorem dX6_lookOf_77 : decode cX6_lookOf 77 = .ok (.invokevirtual 230, 3) := by decide +kernel
theorem dX6_lookOf_80 : decode cX6_lookOf 80 = .ok (.isub, 1) := by decide +kernel
theorem dX6_lookOf_81 : decode cX6_lookOf 81 = .ok (.imul, 1) := by decide +kernel
theorem dX6_lookOf_82 : decode cX6_lookOf 82 = .ok (.iadd, 1) := by decide +kernel
theorem dX6_lookOf_83 : decode cX6_lookOf 83 = .ok (.istore 7, 2) := by decide +kernel
theorem dX6_lookOf_85 : decode cX6_lookOf 85 = .ok (.iinc 8 1, 3) := by decide +kernel
theorem dX6_lookOf_88 : decode cX6_lookOf 88 = .ok (.goto (-53), 3) := by decide +kernel
theorem dX6_lookOf_91 : decode cX6_lookOf 91 = .ok (.iload 6, 2) := by decide +kernel
theorem dX6_lookOf_93 : decode cX6_lookOf 93 = .ok (.iload 7, 2) := by decide +kernel
theorem dX6_lookOf_95 : decode cX6_lookOf 95 = .ok (.if_icmp .le 8, 3) := by decide +kernel
theorem dX6_lookOf_98 : decode cX6_lookOf 98 = .ok (.iload 6, 2) := by decide +kernel
theorem dX6_lookOf_100 : decode cX6_lookOf 100 = .ok (.goto 5, 3) := by decide +kernel
theorem dX6_lookOf_103 : decode cX6_lookOf 103 = .ok (.iload 7, 2) := by decide +kernel
theorem dX6_lookOf_105 : decode cX6_lookOf 105 = .ok (.istore 8, 2) := by decide +kernel
theorem dX6_lookOf_107 : decode cX6_lookOf 107 = .ok (.iload 8, 2) := by decide +kernel
theorem dX6_lookOf_109 : decode cX6_lookOf 109 = .ok (.iload 4, 2) := by decide +kernel
theorem dX6_lookOf_111 : decode cX6_lookOf 111 = .ok (.if_icmp .ge 8, 3) := by decide +kernel
theorem dX6_lookOf_114 : decode cX6_lookOf 114 = .ok (.iload 5, 2) := by decide +kernel
theorem dX6_lookOf_116 : decode cX6_lookOf 116 = .ok (.goto 4, 3) := by decide +kernel
theorem dX6_lookOf_119 : decode cX6_lookOf 119 = .ok (.iload_n 3, 1) := by decide +kernel
theorem dX6_lookOf_120 : decode cX6_lookOf 120 = .ok (.istore_n 3, 1) := by decide +kernel
theorem dX6_lookOf_121 : decode cX6_lookOf 121 = .ok (.iload 8, 2) := by decide +kernel
theorem dX6_lookOf_123 : decode cX6_lookOf 123 = .ok (.iload 4, 2) := by decide +kernel
theorem dX6_lookOf_125 : decode cX6_lookOf 125 = .ok (.if_icmp .ge 8, 3) := by decide +kernel
theorem dX6_lookOf_128 : decode cX6_lookOf 128 = .ok (.iload 8, 2) := by decide +kernel
theorem dX6_lookOf_130 : decode cX6_lookOf 130 = .ok (.goto 5, 3) := by decide +kernel
theorem dX6_lookOf_133 : decode cX6_lookOf 133 = .ok (.iload 4, 2) := by decide +kernel
theorem dX6_lookOf_135 : decode cX6_lookOf 135 = .ok (.istore 4, 2) := by decide +kernel
theorem dX6_lookOf_137 : decode cX6_lookOf 137 = .ok (.iinc 5 1, 3) := by decide +kernel
theorem dX6_lookOf_140 : decode cX6_lookOf 140 = .ok (.goto (-125), 3) := by decide +kernel
theorem dX6_lookOf_143 : decode cX6_lookOf 143 = .ok (.iload_n 3, 1) := by decide +kernel
theorem dX6_lookOf_144 : decode cX6_lookOf 144 = .ok (.ireturn, 1) := by decide +kernel
theorem dX6_draw_0 : decode cX6_draw 0 = .ok (.aload_n 0, 1) := by decide +kernel
theorem dX6_draw_1 : decode cX6_draw 1 = .ok (.ldc2_w 233, 3) := by decide +kernel
theorem dX6_draw_4 : decode cX6_draw 4 = .ok (.aload_n 0, 1) := by decide +kernel
theorem dX6_draw_5 : decode cX6_draw 5 = .ok (.getfield 235, 3) := by decide +kernel
theorem dX6_draw_8 : decode cX6_draw 8 = .ok (.i2l, 1) := by decide +kernel
theorem dX6_draw_9 : decode cX6_draw 9 = .ok (.lmul, 1) := by decide +kernel
theorem dX6_draw_10 : decode cX6_draw 10 = .ok (.ldc2_w 238, 3) := by decide +kernel
theorem dX6_draw_13 : decode cX6_draw 13 = .ok (.ladd, 1) := by decide +kernel
theorem dX6_draw_14 : decode cX6_draw 14 = .ok (.ldc2_w 240, 3) := by decide +kernel
theorem dX6_draw_17 : decode cX6_draw 17 = .ok (.land, 1) := by decide +kernel
theorem dX6_draw_18 : decode cX6_draw 18 = .ok (.l2i, 1) := by decide +kernel
theorem dX6_draw_19 : decode cX6_draw 19 = .ok (.putfield 235, 3) := by decide +kernel
theorem dX6_draw_22 : decode cX6_draw 22 = .ok (.aload_n 0, 1) := by decide +kernel
theorem dX6_draw_23 : decode cX6_draw 23 = .ok (.getfield 235, 3) := by decide +kernel
theorem dX6_draw_26 : decode cX6_draw 26 = .ok (.ldc 242, 2) := by decide +kernel
theorem dX6_draw_28 : decode cX6_draw 28 = .ok (.idiv, 1) := by decide +kernel
theorem dX6_draw_29 : decode cX6_draw 29 = .ok (.iload_n 1, 1) := by decide +kernel
theorem dX6_draw_30 : decode cX6_draw 30 = .ok (.irem, 1) := by decide +kernel
theorem dX6_draw_31 : decode cX6_draw 31 = .ok (.ireturn, 1) := by decide +kernel
set_option maxRecDepth 20000 in
theorem ggX6_drifts_X6_in : GoodIn wsX6_drifts wsX6_in := goodIn_r _ [11] (by decide +kernel) (by decide +kernel)
set_option maxRecDepth 20000 in
theorem gX6_drifts_X6_in : GoodIn wsX6_drifts (va_wsS RX6 56 yX6_in wsX6_in) := goodIn_app (goodIn_of _ (by decide +kernel)) ggX6_drifts_X6_in
set_option maxRecDepth 20000 in
theorem ggX6_drifts_X6_lacks : GoodIn wsX6_drifts wsX6_lacks := goodIn_r _ [15, 6, 43, 44, 45, 46, 47, 48, 49, 50, 51, 52, 53, 54, 55, 56, 57, 58, 59, 60, 61, 62, 63, 64, 65, 66, 67, 68, 69, 70, 71, 72] (by decide +kernel) (by decide +kernel)
set_option maxRecDepth 20000 in
theorem gX6_drifts_X6_lacks : GoodIn wsX6_drifts (wsV RX6 125 RX6 yX6_lacks wsX6_lacks) := goodIn_app (goodIn_of _ (by decide +kernel)) ggX6_drifts_X6_lacks
set_option maxRecDepth 20000 in
theorem ggX6_drifts_X6_copy : GoodIn wsX6_drifts wsX6_copy := goodIn_r _ [18] (by decide +kernel) (by decide +kernel)
set_option maxRecDepth 20000 in
theorem gX6_drifts_X6_copy : GoodIn wsX6_drifts (va_wsS RX6 247 yX6_copy wsX6_copy) := goodIn_app (goodIn_of _ (by decide +kernel)) ggX6_drifts_X6_copy
set_option maxRecDepth 20000 in
theorem ggX6_drifts_X6_draw : GoodIn wsX6_drifts wsX6_draw := goodIn_r _ [22, 23, 3, 24, 25, 26, 43, 44, 45, 46, 47, 48, 49, 50, 51, 52, 53, 54, 55, 56, 57, 58, 59, 60, 61, 62, 63, 64, 65, 66, 67, 68, 69, 70, 71, 72] (by decide +kernel) (by decide +kernel)
set_option maxRecDepth 20000 in
theorem gX6_drifts_X6_draw : GoodIn wsX6_drifts (wsV RX6 251 RX6 yX6_draw wsX6_draw) := goodIn_app (goodIn_of _ (by decide +kernel)) ggX6_drifts_X6_draw
set_option maxRecDepth 20000 in
theorem ggX6_drifts_X6_isUp : GoodIn wsX6_drifts wsX6_isUp := goodIn_r _ [30, 31, 32, 33, 34, 35, 10, 36, 43, 44, 45, 46, 47, 48, 49, 50, 51, 52, 53, 54, 55, 56, 57, 58, 59, 60, 61, 62, 63, 64, 65, 66, 67, 68, 69, 70, 71, 72] (by decide +kernel) (by decide +kernel)
set_option maxRecDepth 20000 in
theorem gX6_drifts_X6_isUp : GoodIn wsX6_drifts (wsV RX6 139 RX6 yX6_isUp wsX6_isUp) := goodIn_app (goodIn_of _ (by decide +kernel)) ggX6_drifts_X6_isUp
set_option maxRecDepth 20000 in
theorem ggX6_drifts_X6_leads : GoodIn wsX6_drifts wsX6_leads := goodIn_r _ [40, 41, 42, 8, 9, 10, 11, 43, 44, 45, 46, 47, 48, 49, 50, 51, 52, 53, 54, 55, 56, 57, 58, 59, 60, 61, 62, 63, 64, 65, 66, 67, 68, 69, 70, 71, 72] (by decide +kernel) (by decide +kernel)
set_option maxRecDepth 20000 in
theorem gX6_drifts_X6_leads : GoodIn wsX6_drifts (wsV RX6 164 RX6 yX6_leads wsX6_leads) := goodIn_app (goodIn_of _ (by decide +kernel)) ggX6_drifts_X6_leads
theorem dX6_drifts_0 : decode cX6_drifts 0 = .ok (.iload_n 1, 1) := by decide +kernel
theorem dX6_drifts_1 : decode cX6_drifts 1 = .ok (.i2l, 1) := by decide +kernel
theorem dX6_drifts_2 : decode cX6_drifts 2 = .ok (.lconst 1, 1) := by decide +kernel
theorem dX6_drifts_3 : decode cX6_drifts 3 = .ok (.ldc2_w 243, 3) := by decide +kernel
theorem dX6_drifts_6 : decode cX6_drifts 6 = .ok (.invokestatic 56, 3) := by decide +kernel
theorem dX6_drifts_9 : decode cX6_drifts 9 = .ok (.ifCond .eq 19, 3) := by decide +kernel
theorem dX6_drifts_12 : decode cX6_drifts 12 = .ok (.iload_n 2, 1) := by decide +kernel
theorem dX6_drifts_13 : decode cX6_drifts 13 = .ok (.ifCond .lt 15, 3) := by decide +kernel
theorem dX6_drifts_16 : decode cX6_drifts 16 = .ok (.iload_n 3, 1) := by decide +kernel
theorem dX6_drifts_17 : decode cX6_drifts 17 = .ok (.i2l, 1) := by decide +kernel
theorem dX6_drifts_18 : decode cX6_drifts 18 = .ok (.lconst 0, 1) := by decide +kernel
theorem dX6_drifts_19 : decode cX6_drifts 19 = .ok (.ldc2_w 245, 3) := by decide +kernel
theorem dX6_drifts_22 : decode cX6_drifts 22 = .ok (.invokestatic 56, 3) := by decide +kernel
theorem dX6_drifts_25 : decode cX6_drifts 25 = .ok (.ifCond .ne 6, 3) := by decide +kernel
theorem dX6_drifts_28 : decode cX6_drifts 28 = .ok (.bipush (-102), 2) := by decide +kernel
theorem dX6_drifts_30 : decode cX6_drifts 30 = .ok (.ireturn, 1) := by decide +kernel
theorem dX6_drifts_31 : decode cX6_drifts 31 = .ok (.aload_n 0, 1) := by decide +kernel
theorem dX6_drifts_32 : decode cX6_drifts 32 = .ok (.invokevirtual 125, 3) := by decide +kernel
theorem dX6_drifts_35 : decode cX6_drifts 35 = .ok (.ifCond .eq 6, 3) := by decide +kernel
theorem dX6_drifts_38 : decode cX6_drifts 38 = .ok (.bipush (-103), 2) := by decide +kernel
theorem dX6_drifts_40 : decode cX6_drifts 40 = .ok (.ireturn, 1) := by decide +kernel
theorem dX6_drifts_41 : decode cX6_drifts 41 = .ok (.aload_n 0, 1) := by decide +kernel
theorem dX6_drifts_42 : decode cX6_drifts 42 = .ok (.iload_n 2, 1) := by decide +kernel
theorem dX6_drifts_43 : decode cX6_drifts 43 = .ok (.putfield 235, 3) := by decide +kernel
theorem dX6_drifts_46 : decode cX6_drifts 46 = .ok (.aload_n 0, 1) := by decide +kernel
theorem dX6_drifts_47 : decode cX6_drifts 47 = .ok (.getfield 19, 3) := by decide +kernel
theorem dX6_drifts_50 : decode cX6_drifts 50 = .ok (.aload_n 0, 1) := by decide +kernel
theorem dX6_drifts_51 : decode cX6_drifts 51 = .ok (.getfield 32, 3) := by decide +kernel
theorem dX6_drifts_54 : decode cX6_drifts 54 = .ok (.invokestatic 247, 3) := by decide +kernel
theorem dX6_drifts_57 : decode cX6_drifts 57 = .ok (.iconst 0, 1) := by decide +kernel
theorem dX6_drifts_58 : decode cX6_drifts 58 = .ok (.istore 4, 2) := by decide +kernel
theorem dX6_drifts_60 : decode cX6_drifts 60 = .ok (.iconst 0, 1) := by decide +kernel
theorem dX6_drifts_61 : decode cX6_drifts 61 = .ok (.istore 5, 2) := by decide +kernel
theorem dX6_drifts_63 : decode cX6_drifts 63 = .ok (.iload 5, 2) := by decide +kernel
theorem dX6_drifts_65 : decode cX6_drifts 65 = .ok (.iload_n 1, 1) := by decide +kernel
theorem dX6_drifts_66 : decode cX6_drifts 66 = .ok (.if_icmp .ge 87, 3) := by decide +kernel
theorem dX6_drifts_69 : decode cX6_drifts 69 = .ok (.iconst 0, 1) := by decide +kernel
theorem dX6_drifts_70 : decode cX6_drifts 70 = .ok (.istore 6, 2) := by decide +kernel
theorem dX6_drifts_72 : decode cX6_drifts 72 = .ok (.iload 6, 2) := by decide +kernel
theorem dX6_drifts_74 : decode cX6_drifts 74 = .ok (.aload_n 0, 1) := by decide +kernel
theorem dX6_drifts_75 : decode cX6_drifts 75 = .ok (.getfield 99, 3) := by decide +kernel
theorem dX6_drifts_78 : decode cX6_drifts 78 = .ok (.if_icmp .ge 69, 3) := by decide +kernel
theorem dX6_drifts_81 : decode cX6_drifts 81 = .ok (.aload_n 0, 1) := by decide +kernel
theorem dX6_drifts_82 : decode cX6_drifts 82 = .ok (.iconst 5, 1) := by decide +kernel
theorem dX6_drifts_83 : decode cX6_drifts 83 = .ok (.invokevirtual 251, 3) := by decide +kernel
theorem dX6_drifts_86 : decode cX6_drifts 86 = .ok (.istore 7, 2) := by decide +kernel
theorem dX6_drifts_88 : decode cX6_drifts 88 = .ok (.aload_n 0, 1) := by decide +kernel
theorem dX6_drifts_89 : decode cX6_drifts 89 = .ok (.iload 7, 2) := by decide +kernel
theorem dX6_drifts_91 : decode cX6_drifts 91 = .ok (.aload_n 0, 1) := by decide +kernel
theorem dX6_drifts_92 : decode cX6_drifts 92 = .ok (.getfield 109, 3) := by decide +kernel
theorem dX6_drifts_95 : decode cX6_drifts 95 = .ok (.iload 5, 2) := by decide +kernel
theorem dX6_drifts_97 : decode cX6_drifts 97 = .ok (.iadd, 1) := by decide +kernel
theorem dX6_drifts_98 : decode cX6_drifts 98 = .ok (.invokevirtual 139, 3) := by decide +kernel
theorem dX6_drifts_101 : decode cX6_drifts 101 = .ok (.ifCond .eq 19, 3) := by decide +kernel
theorem dX6_drifts_104 : decode cX6_drifts 104 = .ok (.aload_n 0, 1) := by decide +kernel
theorem dX6_drifts_105 : decode cX6_drifts 105 = .ok (.aload_n 0, 1) := by decide +kernel
theorem dX6_drifts_106 : decode cX6_drifts 106 = .ok (.getfield 32, 3) := by decide +kernel
theorem dX6_drifts_109 : decode cX6_drifts 109 = .ok (.iload 6, 2) := by decide +kernel
theorem dX6_drifts_111 : decode cX6_drifts 111 = .ok (.iaload, 1) := by decide +kernel
theorem dX6_drifts_112 : decode cX6_drifts 112 = .ok (.iload 7, 2) := by decide +kernel
theorem dX6_drifts_114 : decode cX6_drifts 114 = .ok (.invokevirtual 164, 3) := by decide +kernel
theorem dX6_drifts_117 : decode cX6_drifts 117 = .ok (.goto 4, 3) := by decide +kernel
theorem dX6_drifts_120 : decode cX6_drifts 120 = .ok (.iconst (-1), 1) := by decide +kernel
theorem dX6_drifts_121 : decode cX6_drifts 121 = .ok (.istore 8, 2) := by decide +kernel
theorem dX6_drifts_123 : decode cX6_drifts 123 = .ok (.iload 8, 2) := by decide +kernel
theorem dX6_drifts_125 : decode cX6_drifts 125 = .ok (.iconst (-1), 1) := by decide +kernel
theorem dX6_drifts_126 : decode cX6_drifts 126 = .ok (.if_icmp .eq 15, 3) := by decide +kernel
theorem dX6_drifts_129 : decode cX6_drifts 129 = .ok (.aload_n 0, 1) := by decide +kernel
theorem dX6_drifts_130 : decode cX6_drifts 130 = .ok (.getfield 32, 3) := by decide +kernel
theorem dX6_drifts_133 : decode cX6_drifts 133 = .ok (.iload 6, 2) := by decide +kernel
theorem dX6_drifts_135 : decode cX6_drifts 135 = .ok (.iload 8, 2) := by decide +kernel
theorem dX6_drifts_137 : decode cX6_drifts 137 = .ok (.iastore, 1) := by decide +kernel
theorem dX6_drifts_138 : decode cX6_drifts 138 = .ok (.iinc 4 1, 3) := by decide +kernel
theorem dX6_drifts_141 : decode cX6_drifts 141 = .ok (.iinc 6 1, 3) := by decide +kernel
theorem dX6_drifts_144 : decode cX6_drifts 144 = .ok (.goto (-72), 3) := by decide +kernel
theorem dX6_drifts_147 : decode cX6_drifts 147 = .ok (.iinc 5 1, 3) := by decide +kernel
theorem dX6_drifts_150 : decode cX6_drifts 150 = .ok (.goto (-87), 3) := by decide +kernel
theorem dX6_drifts_153 : decode cX6_drifts 153 = .ok (.iload_n 3, 1) := by decide +kernel
theorem dX6_drifts_154 : decode cX6_drifts 154 = .ok (.ifCond .ne 8, 3) := by decide +kernel
theorem dX6_drifts_157 : decode cX6_drifts 157 = .ok (.iload 4, 2) := by decide +kernel
theorem dX6_drifts_159 : decode cX6_drifts 159 = .ok (.goto 21, 3) := by decide +kernel
theorem dX6_drifts_162 : decode cX6_drifts 162 = .ok (.iload_n 3, 1) := by decide +kernel
theorem dX6_drifts_163 : decode cX6_drifts 163 = .ok (.iconst 1, 1) := by decide +kernel
theorem dX6_drifts_164 : decode cX6_drifts 164 = .ok (.if_icmp .ne 12, 3) := by decide +kernel
theorem dX6_drifts_167 : decode cX6_drifts 167 = .ok (.aload_n 0, 1) := by decide +kernel
theorem dX6_drifts_168 : decode cX6_drifts 168 = .ok (.getfield 32, 3) := by decide +kernel
theorem dX6_drifts_171 : decode cX6_drifts 171 = .ok (.iconst 0, 1) := by decide +kernel
theorem dX6_drifts_172 : decode cX6_drifts 172 = .ok (.iaload, 1) := by decide +kernel
theorem dX6_drifts_173 : decode cX6_drifts 173 = .ok (.goto 7, 3) := by decide +kernel
theorem dX6_drifts_176 : decode cX6_drifts 176 = .ok (.aload_n 0, 1) := by decide +kernel
theorem dX6_drifts_177 : decode cX6_drifts 177 = .ok (.getfield 235, 3) := by decide +kernel
theorem dX6_drifts_180 : decode cX6_drifts 180 = .ok (.ireturn, 1) := by decide +kernel
set_option maxRecDepth 20000 in
theorem ggX6_image_X6_lacks : GoodIn wsX6_image wsX6_lacks := goodIn_r _ [25, 26, 30, 31, 32, 33, 34, 35, 36, 37, 38, 39, 40, 41, 42, 43, 44, 45, 46, 47, 48, 49, 50, 51, 52, 53, 54, 55, 56, 57, 58, 59] (by decide +kernel) (by decide +kernel)
set_option maxRecDepth 20000 in
theorem gX6_image_X6_lacks : GoodIn wsX6_image (wsV RX6 125 RX6 yX6_lacks wsX6_lacks) := goodIn_app (goodIn_of _ (by decide +kernel)) ggX6_image_X6_lacks
set_option maxRecDepth 20000 in
theorem ggX6_image_X6_copy : GoodIn wsX6_image wsX6_copy := goodIn_r _ [29] (by decide +kernel) (by decide +kernel)
set_option maxRecDepth 20000 in
theorem gX6_image_X6_copy : GoodIn wsX6_image (va_wsS RX6 247 yX6_copy wsX6_copy) := goodIn_app (goodIn_of _ (by decide +kernel)) ggX6_image_X6_copy
theorem dX6_image_0 : decode cX6_image 0 = .ok (.aload_n 0, 1) := by decide +kernel
theorem dX6_image_1 : decode cX6_image 1 = .ok (.invokevirtual 125, 3) := by decide +kernel
theorem dX6_image_4 : decode cX6_image 4 = .ok (.ifCond .eq 6, 3) := by decide +kernel
theorem dX6_image_7 : decode cX6_image 7 = .ok (.bipush (-103), 2) := by decide +kernel
theorem dX6_image_9 : decode cX6_image 9 = .ok (.ireturn, 1) := by decide +kernel
theorem dX6_image_10 : decode cX6_image 10 = .ok (.aload_n 0, 1) := by decide +kernel
theorem dX6_image_11 : decode cX6_image 11 = .ok (.getfield 13, 3) := by decide +kernel
theorem dX6_image_14 : decode cX6_image 14 = .ok (.aload_n 0, 1) := by decide +kernel
theorem dX6_image_15 : decode cX6_image 15 = .ok (.getfield 35, 3) := by decide +kernel
theorem dX6_image_18 : decode cX6_image 18 = .ok (.invokestatic 247, 3) := by decide +kernel
theorem dX6_image_21 : decode cX6_image 21 = .ok (.aload_n 0, 1) := by decide +kernel
theorem dX6_image_22 : decode cX6_image 22 = .ok (.getfield 16, 3) := by decide +kernel
theorem dX6_image_25 : decode cX6_image 25 = .ok (.aload_n 0, 1) := by decide +kernel
theorem dX6_image_26 : decode cX6_image 26 = .ok (.getfield 38, 3) := by decide +kernel
theorem dX6_image_29 : decode cX6_image 29 = .ok (.invokestatic 247, 3) := by decide +kernel
theorem dX6_image_32 : decode cX6_image 32 = .ok (.aload_n 0, 1) := by decide +kernel
theorem dX6_image_33 : decode cX6_image 33 = .ok (.getfield 19, 3) := by decide +kernel
theorem dX6_image_36 : decode cX6_image 36 = .ok (.aload_n 0, 1) := by decide +kernel
theorem dX6_image_37 : decode cX6_image 37 = .ok (.getfield 41, 3) := by decide +kernel
theorem dX6_image_40 : decode cX6_image 40 = .ok (.invokestatic 247, 3) := by decide +kernel
theorem dX6_image_43 : decode cX6_image 43 = .ok (.aload_n 0, 1) := by decide +kernel
theorem dX6_image_44 : decode cX6_image 44 = .ok (.getfield 22, 3) := by decide +kernel
theorem dX6_image_47 : decode cX6_image 47 = .ok (.aload_n 0, 1) := by decide +kernel
theorem dX6_image_48 : decode cX6_image 48 = .ok (.getfield 44, 3) := by decide +kernel
theorem dX6_image_51 : decode cX6_image 51 = .ok (.invokestatic 247, 3) := by decide +kernel
theorem dX6_image_54 : decode cX6_image 54 = .ok (.aload_n 0, 1) := by decide +kernel
theorem dX6_image_55 : decode cX6_image 55 = .ok (.getfield 29, 3) := by decide +kernel
theorem dX6_image_58 : decode cX6_image 58 = .ok (.aload_n 0, 1) := by decide +kernel
theorem dX6_image_59 : decode cX6_image 59 = .ok (.getfield 47, 3) := by decide +kernel
theorem dX6_image_62 : decode cX6_image 62 = .ok (.invokestatic 247, 3) := by decide +kernel
theorem dX6_image_65 : decode cX6_image 65 = .ok (.aload_n 0, 1) := by decide +kernel
theorem dX6_image_66 : decode cX6_image 66 = .ok (.aload_n 0, 1) := by decide +kernel
theorem dX6_image_67 : decode cX6_image 67 = .ok (.getfield 109, 3) := by decide +kernel
theorem dX6_image_70 : decode cX6_image 70 = .ok (.putfield 254, 3) := by decide +kernel
theorem dX6_image_73 : decode cX6_image 73 = .ok (.aload_n 0, 1) := by decide +kernel
theorem dX6_image_74 : decode cX6_image 74 = .ok (.aload_n 0, 1) := by decide +kernel
theorem dX6_image_75 : decode cX6_image 75 = .ok (.getfield 112, 3) := by decide +kernel
theorem dX6_image_78 : decode cX6_image 78 = .ok (.putfield 257, 3) := by decide +kernel
theorem dX6_image_81 : decode cX6_image 81 = .ok (.aload_n 0, 1) := by decide +kernel
theorem dX6_image_82 : decode cX6_image 82 = .ok (.aload_n 0, 1) := by decide +kernel
theorem dX6_image_83 : decode cX6_image 83 = .ok (.getfield 116, 3) := by decide +kernel
theorem dX6_image_86 : decode cX6_image 86 = .ok (.putfield 260, 3) := by decide +kernel
theorem dX6_image_89 : decode cX6_image 89 = .ok (.aload_n 0, 1) := by decide +kernel
theorem dX6_image_90 : decode cX6_image 90 = .ok (.aload_n 0, 1) := by decide +kernel
theorem dX6_image_91 : decode cX6_image 91 = .ok (.getfield 119, 3) := by decide +kernel
theorem dX6_image_94 : decode cX6_image 94 = .ok (.putfield 263, 3) := by decide +kernel
theorem dX6_image_97 : decode cX6_image 97 = .ok (.aload_n 0, 1) := by decide +kernel
theorem dX6_image_98 : decode cX6_image 98 = .ok (.aload_n 0, 1) := by decide +kernel
theorem dX6_image_99 : decode cX6_image 99 = .ok (.getfield 122, 3) := by decide +kernel
theorem dX6_image_102 : decode cX6_image 102 = .ok (.putfield 50, 3) := by decide +kernel
theorem dX6_image_105 : decode cX6_image 105 = .ok (.aload_n 0, 1) := by decide +kernel
theorem dX6_image_106 : decode cX6_image 106 = .ok (.getfield 109, 3) := by decide +kernel
theorem dX6_image_109 : decode cX6_image 109 = .ok (.ireturn, 1) := by decide +kernel
set_option maxRecDepth 20000 in
theorem ggX6_restore_X6_copy : GoodIn wsX6_restore wsX6_copy := goodIn_r _ [24] (by decide +kernel) (by decide +kernel)
set_option maxRecDepth 20000 in
theorem gX6_restore_X6_copy : GoodIn wsX6_restore (va_wsS RX6 247 yX6_copy wsX6_copy) := goodIn_app (goodIn_of _ (by decide +kernel)) ggX6_restore_X6_copy
theorem dX6_restore_0 : decode cX6_restore 0 = .ok (.aload_n 0, 1) := by decide +kernel
theorem dX6_restore_1 : decode cX6_restore 1 = .ok (.getfield 50, 3) := by decide +kernel
theorem dX6_restore_4 : decode cX6_restore 4 = .ok (.aload_n 0, 1) := by decide +kernel
theorem dX6_restore_5 : decode cX6_restore 5 = .ok (.getfield 122, 3) := by decide +kernel
theorem dX6_restore_8 : decode cX6_restore 8 = .ok (.if_icmp .eq 6, 3) := by decide +kernel
theorem dX6_restore_11 : decode cX6_restore 11 = .ok (.bipush (-103), 2) := by decide +kernel
theorem dX6_restore_13 : decode cX6_restore 13 = .ok (.ireturn, 1) := by decide +kernel
theorem dX6_restore_14 : decode cX6_restore 14 = .ok (.aload_n 0, 1) := by decide +kernel
theorem dX6_restore_15 : decode cX6_restore 15 = .ok (.getfield 35, 3) := by decide +kernel
theorem dX6_restore_18 : decode cX6_restore 18 = .ok (.aload_n 0, 1) := by decide +kernel
theorem dX6_restore_19 : decode cX6_restore 19 = .ok (.getfield 13, 3) := by decide +kernel
theorem dX6_restore_22 : decode cX6_restore 22 = .ok (.invokestatic 247, 3) := by decide +kernel
theorem dX6_restore_25 : decode cX6_restore 25 = .ok (.aload_n 0, 1) := by decide +kernel
theorem dX6_restore_26 : decode cX6_restore 26 = .ok (.getfield 38, 3) := by decide +kernel
theorem dX6_restore_29 : decode cX6_restore 29 = .ok (.aload_n 0, 1) := by decide +kernel
theorem dX6_restore_30 : decode cX6_restore 30 = .ok (.getfield 16, 3) := by decide +kernel
theorem dX6_restore_33 : decode cX6_restore 33 = .ok (.invokestatic 247, 3) := by decide +kernel
theorem dX6_restore_36 : decode cX6_restore 36 = .ok (.aload_n 0, 1) := by decide +kernel
theorem dX6_restore_37 : decode cX6_restore 37 = .ok (.getfield 41, 3) := by decide +kernel
theorem dX6_restore_40 : decode cX6_restore 40 = .ok (.aload_n 0, 1) := by decide +kernel
theorem dX6_restore_41 : decode cX6_restore 41 = .ok (.getfield 19, 3) := by decide +kernel
theorem dX6_restore_44 : decode cX6_restore 44 = .ok (.invokestatic 247, 3) := by decide +kernel
theorem dX6_restore_47 : decode cX6_restore 47 = .ok (.aload_n 0, 1) := by decide +kernel
theorem dX6_restore_48 : decode cX6_restore 48 = .ok (.getfield 44, 3) := by decide +kernel
theorem dX6_restore_51 : decode cX6_restore 51 = .ok (.aload_n 0, 1) := by decide +kernel
theorem dX6_restore_52 : decode cX6_restore 52 = .ok (.getfield 22, 3) := by decide +kernel
theorem dX6_restore_55 : decode cX6_restore 55 = .ok (.invokestatic 247, 3) := by decide +kernel
theorem dX6_restore_58 : decode cX6_restore 58 = .ok (.aload_n 0, 1) := by decide +kernel
theorem dX6_restore_59 : decode cX6_restore 59 = .ok (.getfield 47, 3) := by decide +kernel
theorem dX6_restore_62 : decode cX6_restore 62 = .ok (.aload_n 0, 1) := by decide +kernel
theorem dX6_restore_63 : decode cX6_restore 63 = .ok (.getfield 29, 3) := by decide +kernel
theorem dX6_restore_66 : decode cX6_restore 66 = .ok (.invokestatic 247, 3) := by decide +kernel
theorem dX6_restore_69 : decode cX6_restore 69 = .ok (.aload_n 0, 1) := by decide +kernel
theorem dX6_restore_70 : decode cX6_restore 70 = .ok (.aload_n 0, 1) := by decide +kernel
theorem dX6_restore_71 : decode cX6_restore 71 = .ok (.getfield 254, 3) := by decide +kernel
theorem dX6_restore_74 : decode cX6_restore 74 = .ok (.putfield 109, 3) := by decide +kernel
theorem dX6_restore_77 : decode cX6_restore 77 = .ok (.aload_n 0, 1) := by decide +kernel
theorem dX6_restore_78 : decode cX6_restore 78 = .ok (.aload_n 0, 1) := by decide +kernel
theorem dX6_restore_79 : decode cX6_restore 79 = .ok (.getfield 257, 3) := by decide +kernel
theorem dX6_restore_82 : decode cX6_restore 82 = .ok (.putfield 112, 3) := by decide +kernel
theorem dX6_restore_85 : decode cX6_restore 85 = .ok (.aload_n 0, 1) := by decide +kernel
theorem dX6_restore_86 : decode cX6_restore 86 = .ok (.aload_n 0, 1) := by decide +kernel
theorem dX6_restore_87 : decode cX6_restore 87 = .ok (.getfield 260, 3) := by decide +kernel
theorem dX6_restore_90 : decode cX6_restore 90 = .ok (.putfield 116, 3) := by decide +kernel
theorem dX6_restore_93 : decode cX6_restore 93 = .ok (.aload_n 0, 1) := by decide +kernel
theorem dX6_restore_94 : decode cX6_restore 94 = .ok (.aload_n 0, 1) := by decide +kernel
theorem dX6_restore_95 : decode cX6_restore 95 = .ok (.getfield 263, 3) := by decide +kernel
theorem dX6_restore_98 : decode cX6_restore 98 = .ok (.putfield 119, 3) := by decide +kernel
theorem dX6_restore_101 : decode cX6_restore 101 = .ok (.aload_n 0, 1) := by decide +kernel
theorem dX6_restore_102 : decode cX6_restore 102 = .ok (.getfield 109, 3) := by decide +kernel
theorem dX6_restore_105 : decode cX6_restore 105 = .ok (.ireturn, 1) := by decide +kernel
set_option maxRecDepth 20000 in
theorem ggX6_upToday_X6_lacks : GoodIn wsX6_upToday wsX6_lacks := goodIn_r _ [6, 7, 18, 19, 20, 21, 22, 23, 24, 25, 26, 27, 28, 29, 30, 31, 32, 33, 34, 35, 36, 37, 38, 39, 40, 41, 42, 43, 44, 45, 46, 47] (by decide +kernel) (by decide +kernel)
set_option maxRecDepth 20000 in
theorem gX6_upToday_X6_lacks : GoodIn wsX6_upToday (wsV RX6 125 RX6 yX6_lacks wsX6_lacks) := goodIn_app (goodIn_of _ (by decide +kernel)) ggX6_upToday_X6_lacks
set_option maxRecDepth 20000 in
theorem ggX6_upToday_X6_isUp : GoodIn wsX6_upToday wsX6_isUp := goodIn_r _ [11, 12, 13, 14, 15, 16, 5, 17, 18, 19, 20, 21, 22, 23, 24, 25, 26, 27, 28, 29, 30, 31, 32, 33, 34, 35, 36, 37, 38, 39, 40, 41, 42, 43, 44, 45, 46, 47] (by decide +kernel) (by decide +kernel)
set_option maxRecDepth 20000 in
theorem gX6_upToday_X6_isUp : GoodIn wsX6_upToday (wsV RX6 139 RX6 yX6_isUp wsX6_isUp) := goodIn_app (goodIn_of _ (by decide +kernel)) ggX6_upToday_X6_isUp
theorem dX6_upToday_0 : decode cX6_upToday 0 = .ok (.iconst 0, 1) := by decide +kernel
theorem dX6_upToday_1 : decode cX6_upToday 1 = .ok (.istore_n 1, 1) := by decide +kernel
theorem dX6_upToday_2 : decode cX6_upToday 2 = .ok (.iconst 0, 1) := by decide +kernel
theorem dX6_upToday_3 : decode cX6_upToday 3 = .ok (.istore_n 2, 1) := by decide +kernel
theorem dX6_upToday_4 : decode cX6_upToday 4 = .ok (.iload_n 2, 1) := by decide +kernel
theorem dX6_upToday_5 : decode cX6_upToday 5 = .ok (.iconst 4, 1) := by decide +kernel
theorem dX6_upToday_6 : decode cX6_upToday 6 = .ok (.if_icmp .ge 36, 3) := by decide +kernel
theorem dX6_upToday_9 : decode cX6_upToday 9 = .ok (.aload_n 0, 1) := by decide +kernel
theorem dX6_upToday_10 : decode cX6_upToday 10 = .ok (.invokevirtual 125, 3) := by decide +kernel
theorem dX6_upToday_13 : decode cX6_upToday 13 = .ok (.ifCond .ne 29, 3) := by decide +kernel
theorem dX6_upToday_16 : decode cX6_upToday 16 = .ok (.iload_n 1, 1) := by decide +kernel
theorem dX6_upToday_17 : decode cX6_upToday 17 = .ok (.aload_n 0, 1) := by decide +kernel
theorem dX6_upToday_18 : decode cX6_upToday 18 = .ok (.iload_n 2, 1) := by decide +kernel
theorem dX6_upToday_19 : decode cX6_upToday 19 = .ok (.aload_n 0, 1) := by decide +kernel
theorem dX6_upToday_20 : decode cX6_upToday 20 = .ok (.getfield 109, 3) := by decide +kernel
theorem dX6_upToday_23 : decode cX6_upToday 23 = .ok (.invokevirtual 139, 3) := by decide +kernel
theorem dX6_upToday_26 : decode cX6_upToday 26 = .ok (.ifCond .eq 7, 3) := by decide +kernel
theorem dX6_upToday_29 : decode cX6_upToday 29 = .ok (.iconst 1, 1) := by decide +kernel
theorem dX6_upToday_30 : decode cX6_upToday 30 = .ok (.goto 4, 3) := by decide +kernel
theorem dX6_upToday_33 : decode cX6_upToday 33 = .ok (.iconst 0, 1) := by decide +kernel
theorem dX6_upToday_34 : decode cX6_upToday 34 = .ok (.iadd, 1) := by decide +kernel
theorem dX6_upToday_35 : decode cX6_upToday 35 = .ok (.istore_n 1, 1) := by decide +kernel
theorem dX6_upToday_36 : decode cX6_upToday 36 = .ok (.iinc 2 1, 3) := by decide +kernel
theorem dX6_upToday_39 : decode cX6_upToday 39 = .ok (.goto (-35), 3) := by decide +kernel
theorem dX6_upToday_42 : decode cX6_upToday 42 = .ok (.iload_n 1, 1) := by decide +kernel
theorem dX6_upToday_43 : decode cX6_upToday 43 = .ok (.ireturn, 1) := by decide +kernel
set_option maxRecDepth 20000 in
theorem ggX6_illToday_X6_lacks : GoodIn wsX6_illToday wsX6_lacks := goodIn_r _ [5, 6, 13, 14, 15, 16, 17, 18, 19, 20, 21, 22, 23, 24, 25, 26, 27, 28, 29, 30, 31, 32, 33, 34, 35, 36, 37, 38, 39, 40, 41, 42] (by decide +kernel) (by decide +kernel)
set_option maxRecDepth 20000 in
theorem gX6_illToday_X6_lacks : GoodIn wsX6_illToday (wsV RX6 125 RX6 yX6_lacks wsX6_lacks) := goodIn_app (goodIn_of _ (by decide +kernel)) ggX6_illToday_X6_lacks
set_option maxRecDepth 20000 in
theorem ggX6_illToday_X6_illFor : GoodIn wsX6_illToday wsX6_illFor := goodIn_r _ [10, 11, 12, 13, 14, 15, 16, 17, 18, 19, 20, 21, 22, 23, 24, 25, 26, 27, 28, 29, 30, 31, 32, 33, 34, 35, 36, 37, 38, 39, 40, 41, 42] (by decide +kernel) (by decide +kernel)
set_option maxRecDepth 20000 in
theorem gX6_illToday_X6_illFor : GoodIn wsX6_illToday (wsV RX6 143 RX6 yX6_illFor wsX6_illFor) := goodIn_app (goodIn_of _ (by decide +kernel)) ggX6_illToday_X6_illFor
theorem dX6_illToday_0 : decode cX6_illToday 0 = .ok (.iconst 0, 1) := by decide +kernel
theorem dX6_illToday_1 : decode cX6_illToday 1 = .ok (.istore_n 1, 1) := by decide +kernel
theorem dX6_illToday_2 : decode cX6_illToday 2 = .ok (.iconst 0, 1) := by decide +kernel
theorem dX6_illToday_3 : decode cX6_illToday 3 = .ok (.istore_n 2, 1) := by decide +kernel
theorem dX6_illToday_4 : decode cX6_illToday 4 = .ok (.iload_n 2, 1) := by decide +kernel
theorem dX6_illToday_5 : decode cX6_illToday 5 = .ok (.iconst 4, 1) := by decide +kernel
theorem dX6_illToday_6 : decode cX6_illToday 6 = .ok (.if_icmp .ge 32, 3) := by decide +kernel
theorem dX6_illToday_9 : decode cX6_illToday 9 = .ok (.aload_n 0, 1) := by decide +kernel
theorem dX6_illToday_10 : decode cX6_illToday 10 = .ok (.invokevirtual 125, 3) := by decide +kernel
theorem dX6_illToday_13 : decode cX6_illToday 13 = .ok (.ifCond .ne 25, 3) := by decide +kernel
theorem dX6_illToday_16 : decode cX6_illToday 16 = .ok (.iload_n 1, 1) := by decide +kernel
theorem dX6_illToday_17 : decode cX6_illToday 17 = .ok (.aload_n 0, 1) := by decide +kernel
theorem dX6_illToday_18 : decode cX6_illToday 18 = .ok (.iload_n 2, 1) := by decide +kernel
theorem dX6_illToday_19 : decode cX6_illToday 19 = .ok (.invokevirtual 143, 3) := by decide +kernel
theorem dX6_illToday_22 : decode cX6_illToday 22 = .ok (.ifCond .le 7, 3) := by decide +kernel
theorem dX6_illToday_25 : decode cX6_illToday 25 = .ok (.iconst 1, 1) := by decide +kernel
theorem dX6_illToday_26 : decode cX6_illToday 26 = .ok (.goto 4, 3) := by decide +kernel
theorem dX6_illToday_29 : decode cX6_illToday 29 = .ok (.iconst 0, 1) := by decide +kernel
theorem dX6_illToday_30 : decode cX6_illToday 30 = .ok (.iadd, 1) := by decide +kernel
theorem dX6_illToday_31 : decode cX6_illToday 31 = .ok (.istore_n 1, 1) := by decide +kernel
theorem dX6_illToday_32 : decode cX6_illToday 32 = .ok (.iinc 2 1, 3) := by decide +kernel
theorem dX6_illToday_35 : decode cX6_illToday 35 = .ok (.goto (-31), 3) := by decide +kernel
theorem dX6_illToday_38 : decode cX6_illToday 38 = .ok (.iload_n 1, 1) := by decide +kernel
theorem dX6_illToday_39 : decode cX6_illToday 39 = .ok (.ireturn, 1) := by decide +kernel
set_option maxRecDepth 20000 in
theorem ggX6_countOf_X6_upToday : GoodIn wsX6_countOf wsX6_upToday := goodIn_r _ [14, 3, 15, 16, 17, 13, 18, 1, 19, 20, 21, 22, 4, 23, 24, 25, 26, 27, 36, 37, 38, 39, 40, 41, 42, 43, 44, 45, 46, 47, 48, 49, 50, 51, 52, 53, 54, 55, 56, 57, 58, 59, 60, 61, 62, 63, 64, 65] (by decide +kernel) (by decide +kernel)
set_option maxRecDepth 20000 in
theorem gX6_countOf_X6_upToday : GoodIn wsX6_countOf (wsV RX6 266 RX6 yX6_upToday wsX6_upToday) := goodIn_app (goodIn_of _ (by decide +kernel)) ggX6_countOf_X6_upToday
set_option maxRecDepth 20000 in
theorem ggX6_countOf_X6_illToday : GoodIn wsX6_countOf wsX6_illToday := goodIn_r _ [31, 15, 16, 17, 13, 18, 1, 32, 33, 34, 35, 24, 3, 36, 37, 38, 39, 40, 41, 42, 43, 44, 45, 46, 47, 48, 49, 50, 51, 52, 53, 54, 55, 56, 57, 58, 59, 60, 61, 62, 63, 64, 65] (by decide +kernel) (by decide +kernel)
set_option maxRecDepth 20000 in
theorem gX6_countOf_X6_illToday : GoodIn wsX6_countOf (wsV RX6 269 RX6 yX6_illToday wsX6_illToday) := goodIn_app (goodIn_of _ (by decide +kernel)) ggX6_countOf_X6_illToday
theorem dX6_countOf_0 : decode cX6_countOf 0 = .ok (.iload_n 1, 1) := by decide +kernel
theorem dX6_countOf_1 : decode cX6_countOf 1 = .ok (.tableswitch 138 0 10 #[59, 64, 69, 74, 87, 92, 97, 118, 123, 128, 133], 59) := by decide +kernel
theorem dX6_countOf_60 : decode cX6_countOf 60 = .ok (.aload_n 0, 1) := by decide +kernel
theorem dX6_countOf_61 : decode cX6_countOf 61 = .ok (.getfield 99, 3) := by decide +kernel
theorem dX6_countOf_64 : decode cX6_countOf 64 = .ok (.ireturn, 1) := by decide +kernel
theorem dX6_countOf_65 : decode cX6_countOf 65 = .ok (.aload_n 0, 1) := by decide +kernel
theorem dX6_countOf_66 : decode cX6_countOf 66 = .ok (.getfield 102, 3) := by decide +kernel
theorem dX6_countOf_69 : decode cX6_countOf 69 = .ok (.ireturn, 1) := by decide +kernel
theorem dX6_countOf_70 : decode cX6_countOf 70 = .ok (.aload_n 0, 1) := by decide +kernel
theorem dX6_countOf_71 : decode cX6_countOf 71 = .ok (.getfield 109, 3) := by decide +kernel
theorem dX6_countOf_74 : decode cX6_countOf 74 = .ok (.ireturn, 1) := by decide +kernel
theorem dX6_countOf_75 : decode cX6_countOf 75 = .ok (.aload_n 0, 1) := by decide +kernel
theorem dX6_countOf_76 : decode cX6_countOf 76 = .ok (.getfield 112, 3) := by decide +kernel
theorem dX6_countOf_79 : decode cX6_countOf 79 = .ok (.ifCond .eq 7, 3) := by decide +kernel
theorem dX6_countOf_82 : decode cX6_countOf 82 = .ok (.iconst 1, 1) := by decide +kernel
theorem dX6_countOf_83 : decode cX6_countOf 83 = .ok (.goto 4, 3) := by decide +kernel
theorem dX6_countOf_86 : decode cX6_countOf 86 = .ok (.iconst 0, 1) := by decide +kernel
theorem dX6_countOf_87 : decode cX6_countOf 87 = .ok (.ireturn, 1) := by decide +kernel
theorem dX6_countOf_88 : decode cX6_countOf 88 = .ok (.aload_n 0, 1) := by decide +kernel
theorem dX6_countOf_89 : decode cX6_countOf 89 = .ok (.invokevirtual 266, 3) := by decide +kernel
theorem dX6_countOf_92 : decode cX6_countOf 92 = .ok (.ireturn, 1) := by decide +kernel
theorem dX6_countOf_93 : decode cX6_countOf 93 = .ok (.aload_n 0, 1) := by decide +kernel
theorem dX6_countOf_94 : decode cX6_countOf 94 = .ok (.invokevirtual 269, 3) := by decide +kernel
theorem dX6_countOf_97 : decode cX6_countOf 97 = .ok (.ireturn, 1) := by decide +kernel
theorem dX6_countOf_98 : decode cX6_countOf 98 = .ok (.aload_n 0, 1) := by decide +kernel
theorem dX6_countOf_99 : decode cX6_countOf 99 = .ok (.getfield 22, 3) := by decide +kernel
theorem dX6_countOf_102 : decode cX6_countOf 102 = .ok (.iconst 0, 1) := by decide +kernel
theorem dX6_countOf_103 : decode cX6_countOf 103 = .ok (.iaload, 1) := by decide +kernel
theorem dX6_countOf_104 : decode cX6_countOf 104 = .ok (.aload_n 0, 1) := by decide +kernel
theorem dX6_countOf_105 : decode cX6_countOf 105 = .ok (.getfield 22, 3) := by decide +kernel
theorem dX6_countOf_108 : decode cX6_countOf 108 = .ok (.iconst 1, 1) := by decide +kernel
theorem dX6_countOf_109 : decode cX6_countOf 109 = .ok (.iaload, 1) := by decide +kernel
theorem dX6_countOf_110 : decode cX6_countOf 110 = .ok (.iadd, 1) := by decide +kernel
theorem dX6_countOf_111 : decode cX6_countOf 111 = .ok (.aload_n 0, 1) := by decide +kernel
theorem dX6_countOf_112 : decode cX6_countOf 112 = .ok (.getfield 22, 3) := by decide +kernel
theorem dX6_countOf_115 : decode cX6_countOf 115 = .ok (.iconst 2, 1) := by decide +kernel
theorem dX6_countOf_116 : decode cX6_countOf 116 = .ok (.iaload, 1) := by decide +kernel
theorem dX6_countOf_117 : decode cX6_countOf 117 = .ok (.iadd, 1) := by decide +kernel
theorem dX6_countOf_118 : decode cX6_countOf 118 = .ok (.ireturn, 1) := by decide +kernel
theorem dX6_countOf_119 : decode cX6_countOf 119 = .ok (.aload_n 0, 1) := by decide +kernel
theorem dX6_countOf_120 : decode cX6_countOf 120 = .ok (.getfield 116, 3) := by decide +kernel
theorem dX6_countOf_123 : decode cX6_countOf 123 = .ok (.ireturn, 1) := by decide +kernel
theorem dX6_countOf_124 : decode cX6_countOf 124 = .ok (.aload_n 0, 1) := by decide +kernel
theorem dX6_countOf_125 : decode cX6_countOf 125 = .ok (.getfield 119, 3) := by decide +kernel
theorem dX6_countOf_128 : decode cX6_countOf 128 = .ok (.ireturn, 1) := by decide +kernel
theorem dX6_countOf_129 : decode cX6_countOf 129 = .ok (.aload_n 0, 1) := by decide +kernel
theorem dX6_countOf_130 : decode cX6_countOf 130 = .ok (.getfield 60, 3) := by decide +kernel
theorem dX6_countOf_133 : decode cX6_countOf 133 = .ok (.ireturn, 1) := by decide +kernel
theorem dX6_countOf_134 : decode cX6_countOf 134 = .ok (.aload_n 0, 1) := by decide +kernel
theorem dX6_countOf_135 : decode cX6_countOf 135 = .ok (.getfield 122, 3) := by decide +kernel
theorem dX6_countOf_138 : decode cX6_countOf 138 = .ok (.ireturn, 1) := by decide +kernel
theorem dX6_countOf_139 : decode cX6_countOf 139 = .ok (.bipush (-102), 2) := by decide +kernel
theorem dX6_countOf_141 : decode cX6_countOf 141 = .ok (.ireturn, 1) := by decide +kernel
set_option maxRecDepth 20000 in
theorem ggX6_count_X6_countOf : GoodIn wsX6_count wsX6_countOf := goodIn_r _ [5, 6, 7, 8, 9, 10, 11, 12, 13, 14, 15, 16, 17, 4, 18, 19, 20, 21, 22, 23, 24, 25, 26, 27, 28, 29, 30, 31, 32, 33, 34, 35, 36, 37, 38, 39, 40, 41, 42, 43, 44, 45, 46, 47, 48, 49, 50, 51, 52, 53, 54, 55, 56, 57, 58, 59, 60, 61, 62, 63, 64, 65, 66, 67, 68, 69] (by decide +kernel) (by decide +kernel)
set_option maxRecDepth 20000 in
theorem gX6_count_X6_countOf : GoodIn wsX6_count (wsV RX6 272 RX6 yX6_countOf wsX6_countOf) := goodIn_app (goodIn_of _ (by decide +kernel)) ggX6_count_X6_countOf
theorem dX6_count_0 : decode cX6_count 0 = .ok (.aload_n 0, 1) := by decide +kernel
theorem dX6_count_1 : decode cX6_count 1 = .ok (.iload_n 1, 1) := by decide +kernel
theorem dX6_count_2 : decode cX6_count 2 = .ok (.invokevirtual 272, 3) := by decide +kernel
theorem dX6_count_5 : decode cX6_count 5 = .ok (.ireturn, 1) := by decide +kernel
theorem dX6_say_0 : decode cX6_say 0 = .ok (.aload_n 0, 1) := by decide +kernel
theorem dX6_say_1 : decode cX6_say 1 = .ok (.ldc2_w 275, 3) := by decide +kernel
theorem dX6_say_4 : decode cX6_say 4 = .ok (.aload_n 0, 1) := by decide +kernel
theorem dX6_say_5 : decode cX6_say 5 = .ok (.getfield 277, 3) := by decide +kernel
theorem dX6_say_8 : decode cX6_say 8 = .ok (.lmul, 1) := by decide +kernel
theorem dX6_say_9 : decode cX6_say 9 = .ok (.lload_n 1, 1) := by decide +kernel
theorem dX6_say_10 : decode cX6_say 10 = .ok (.ladd, 1) := by decide +kernel
theorem dX6_say_11 : decode cX6_say 11 = .ok (.putfield 277, 3) := by decide +kernel
theorem dX6_say_14 : decode cX6_say 14 = .ok (.return_, 1) := by decide +kernel
set_option maxRecDepth 20000 in
theorem ggX6_sayShip_X6_tellShip : GoodIn wsX6_sayShip wsX6_tellShip := goodIn_r _ [5, 6, 7, 8, 9, 10, 4, 11, 12, 13, 14, 15, 16, 17, 18, 19, 20, 21, 22, 23, 24, 25, 26, 27, 28, 29, 30, 31, 84, 85, 86, 87, 88, 89, 90, 91, 92, 93, 94, 95, 96, 97, 98, 99, 100, 101, 102, 103, 104, 105, 106, 107, 108, 109, 110, 111, 112, 113] (by decide +kernel) (by decide +kernel)
set_option maxRecDepth 20000 in
theorem gX6_sayShip_X6_tellShip : GoodIn wsX6_sayShip (wsV RX6 173 RX6 yX6_tellShip wsX6_tellShip) := goodIn_app (goodIn_of _ (by decide +kernel)) ggX6_sayShip_X6_tellShip
set_option maxRecDepth 20000 in
theorem ggX6_sayShip_X6_say : GoodIn wsX6_sayShip wsX6_say := goodIn_r _ [35, 36, 37, 84, 85, 86, 87, 88, 89, 90, 91, 92, 93, 94, 95, 96, 97, 98, 99, 100, 101, 102, 103, 104, 105, 106, 107, 108, 109, 110, 111, 112, 113] (by decide +kernel) (by decide +kernel)
set_option maxRecDepth 20000 in
theorem gX6_sayShip_X6_say : GoodIn wsX6_sayShip (wsV RX6 280 RX6 yX6_say wsX6_say) := goodIn_app (goodIn_of _ (by decide +kernel)) ggX6_sayShip_X6_say
set_option maxRecDepth 20000 in
theorem ggX6_sayShip_X6_tellSoon : GoodIn wsX6_sayShip wsX6_tellSoon := goodIn_r _ [41, 42, 43, 44, 4, 45, 6, 12, 46, 47, 48, 49, 7, 50, 51, 52, 53, 13, 14, 15, 16, 17, 18, 19, 20, 21, 22, 23, 24, 25, 26, 27, 28, 29, 30, 31, 54, 55, 56, 57, 58, 59, 60, 61, 62, 84, 85, 86, 87, 88, 89, 90, 91, 92, 93, 94, 95, 96, 97, 98, 99, 100, 101, 102, 103, 104, 105, 106, 107, 108, 109, 110, 111, 112, 113] (by decide +kernel) (by decide +kernel)
set_option maxRecDepth 20000 in
theorem gX6_sayShip_X6_tellSoon : GoodIn wsX6_sayShip (wsV RX6 210 RX6 yX6_tellSoon wsX6_tellSoon) := goodIn_app (goodIn_of _ (by decide +kernel)) ggX6_sayShip_X6_tellSoon
set_option maxRecDepth 20000 in
theorem ggX6_sayShip_X6_neededOf : GoodIn wsX6_sayShip wsX6_neededOf := goodIn_r _ [66, 19, 12, 67, 68, 69, 4, 70, 42, 43, 44, 45, 6, 46, 47, 48, 49, 7, 50, 51, 52, 53, 13, 14, 15, 16, 17, 18, 20, 21, 22, 23, 24, 25, 26, 27, 28, 29, 30, 31, 84, 85, 86, 87, 88, 89, 90, 91, 92, 93, 94, 95, 96, 97, 98, 99, 100, 101, 102, 103, 104, 105, 106, 107, 108, 109, 110, 111, 112, 113] (by decide +kernel) (by decide +kernel)
set_option maxRecDepth 20000 in
theorem gX6_sayShip_X6_neededOf : GoodIn wsX6_sayShip (wsV RX6 217 RX6 yX6_neededOf wsX6_neededOf) := goodIn_app (goodIn_of _ (by decide +kernel)) ggX6_sayShip_X6_neededOf
set_option maxRecDepth 20000 in
theorem ggX6_sayShip_X6_brickOf : GoodIn wsX6_sayShip wsX6_brickOf := goodIn_r _ [74, 19, 67, 68, 69, 4, 70, 42, 43, 44, 45, 6, 12, 46, 47, 48, 49, 7, 50, 51, 52, 53, 13, 14, 15, 16, 17, 18, 20, 21, 22, 23, 24, 25, 26, 27, 28, 29, 30, 31, 84, 85, 86, 87, 88, 89, 90, 91, 92, 93, 94, 95, 96, 97, 98, 99, 100, 101, 102, 103, 104, 105, 106, 107, 108, 109, 110, 111, 112, 113] (by decide +kernel) (by decide +kernel)
set_option maxRecDepth 20000 in
theorem gX6_sayShip_X6_brickOf : GoodIn wsX6_sayShip (wsV RX6 220 RX6 yX6_brickOf wsX6_brickOf) := goodIn_app (goodIn_of _ (by decide +kernel)) ggX6_sayShip_X6_brickOf
set_option maxRecDepth 20000 in
theorem ggX6_sayShip_X6_asideOf : GoodIn wsX6_sayShip wsX6_asideOf := goodIn_r _ [78, 17, 79, 80, 81, 82, 4, 83, 12, 46, 47, 48, 49, 6, 7, 50, 51, 52, 53, 13, 14, 15, 16, 18, 19, 20, 21, 22, 23, 24, 25, 26, 27, 28, 29, 30, 31, 84, 85, 86, 87, 88, 89, 90, 91, 92, 93, 94, 95, 96, 97, 98, 99, 100, 101, 102, 103, 104, 105, 106, 107, 108, 109, 110, 111, 112, 113] (by decide +kernel) (by decide +kernel)
set_option maxRecDepth 20000 in
theorem gX6_sayShip_X6_asideOf : GoodIn wsX6_sayShip (wsV RX6 227 RX6 yX6_asideOf wsX6_asideOf) := goodIn_app (goodIn_of _ (by decide +kernel)) ggX6_sayShip_X6_asideOf
theorem dX6_sayShip_0 : decode cX6_sayShip 0 = .ok (.iconst 0, 1) := by decide +kernel
theorem dX6_sayShip_1 : decode cX6_sayShip 1 = .ok (.istore_n 2, 1) := by decide +kernel
theorem dX6_sayShip_2 : decode cX6_sayShip 2 = .ok (.iload_n 2, 1) := by decide +kernel
theorem dX6_sayShip_3 : decode cX6_sayShip 3 = .ok (.iconst 3, 1) := by decide +kernel
theorem dX6_sayShip_4 : decode cX6_sayShip 4 = .ok (.if_icmp .ge 20, 3) := by decide +kernel
theorem dX6_sayShip_7 : decode cX6_sayShip 7 = .ok (.aload_n 0, 1) := by decide +kernel
theorem dX6_sayShip_8 : decode cX6_sayShip 8 = .ok (.aload_n 0, 1) := by decide +kernel
theorem dX6_sayShip_9 : decode cX6_sayShip 9 = .ok (.iload_n 1, 1) := by decide +kernel
theorem dX6_sayShip_10 : decode cX6_sayShip 10 = .ok (.iload_n 2, 1) := by decide +kernel
theorem dX6_sayShip_11 : decode cX6_sayShip 11 = .ok (.invokevirtual 173, 3) := by decide +kernel
theorem dX6_sayShip_14 : decode cX6_sayShip 14 = .ok (.i2l, 1) := by decide +kernel
theorem dX6_sayShip_15 : decode cX6_sayShip 15 = .ok (.invokevirtual 280, 3) := by decide +kernel
theorem dX6_sayShip_18 : decode cX6_sayShip 18 = .ok (.iinc 2 1, 3) := by decide +kernel
theorem dX6_sayShip_21 : decode cX6_sayShip 21 = .ok (.goto (-19), 3) := by decide +kernel
theorem dX6_sayShip_24 : decode cX6_sayShip 24 = .ok (.aload_n 0, 1) := by decide +kernel
theorem dX6_sayShip_25 : decode cX6_sayShip 25 = .ok (.aload_n 0, 1) := by decide +kernel
theorem dX6_sayShip_26 : decode cX6_sayShip 26 = .ok (.iload_n 1, 1) := by decide +kernel
theorem dX6_sayShip_27 : decode cX6_sayShip 27 = .ok (.iconst 0, 1) := by decide +kernel
theorem dX6_sayShip_28 : decode cX6_sayShip 28 = .ok (.iconst 0, 1) := by decide +kernel
theorem dX6_sayShip_29 : decode cX6_sayShip 29 = .ok (.invokevirtual 210, 3) := by decide +kernel
theorem dX6_sayShip_32 : decode cX6_sayShip 32 = .ok (.i2l, 1) := by decide +kernel
theorem dX6_sayShip_33 : decode cX6_sayShip 33 = .ok (.invokevirtual 280, 3) := by decide +kernel
theorem dX6_sayShip_36 : decode cX6_sayShip 36 = .ok (.aload_n 0, 1) := by decide +kernel
theorem dX6_sayShip_37 : decode cX6_sayShip 37 = .ok (.aload_n 0, 1) := by decide +kernel
theorem dX6_sayShip_38 : decode cX6_sayShip 38 = .ok (.iload_n 1, 1) := by decide +kernel
theorem dX6_sayShip_39 : decode cX6_sayShip 39 = .ok (.iconst 0, 1) := by decide +kernel
theorem dX6_sayShip_40 : decode cX6_sayShip 40 = .ok (.bipush 10, 2) := by decide +kernel
theorem dX6_sayShip_42 : decode cX6_sayShip 42 = .ok (.invokevirtual 210, 3) := by decide +kernel
theorem dX6_sayShip_45 : decode cX6_sayShip 45 = .ok (.i2l, 1) := by decide +kernel
theorem dX6_sayShip_46 : decode cX6_sayShip 46 = .ok (.invokevirtual 280, 3) := by decide +kernel
theorem dX6_sayShip_49 : decode cX6_sayShip 49 = .ok (.aload_n 0, 1) := by decide +kernel
theorem dX6_sayShip_50 : decode cX6_sayShip 50 = .ok (.aload_n 0, 1) := by decide +kernel
theorem dX6_sayShip_51 : decode cX6_sayShip 51 = .ok (.iload_n 1, 1) := by decide +kernel
theorem dX6_sayShip_52 : decode cX6_sayShip 52 = .ok (.bipush 35, 2) := by decide +kernel
theorem dX6_sayShip_54 : decode cX6_sayShip 54 = .ok (.iconst 0, 1) := by decide +kernel
theorem dX6_sayShip_55 : decode cX6_sayShip 55 = .ok (.invokevirtual 210, 3) := by decide +kernel
theorem dX6_sayShip_58 : decode cX6_sayShip 58 = .ok (.i2l, 1) := by decide +kernel
theorem dX6_sayShip_59 : decode cX6_sayShip 59 = .ok (.invokevirtual 280, 3) := by decide +kernel
theorem dX6_sayShip_62 : decode cX6_sayShip 62 = .ok (.aload_n 0, 1) := by decide +kernel
theorem dX6_sayShip_63 : decode cX6_sayShip 63 = .ok (.aload_n 0, 1) := by decide +kernel
theorem dX6_sayShip_64 : decode cX6_sayShip 64 = .ok (.iload_n 1, 1) := by decide +kernel
theorem dX6_sayShip_65 : decode cX6_sayShip 65 = .ok (.bipush 35, 2) := by decide +kernel
theorem dX6_sayShip_67 : decode cX6_sayShip 67 = .ok (.bipush 10, 2) := by decide +kernel
theorem dX6_sayShip_69 : decode cX6_sayShip 69 = .ok (.invokevirtual 210, 3) := by decide +kernel
theorem dX6_sayShip_72 : decode cX6_sayShip 72 = .ok (.i2l, 1) := by decide +kernel
theorem dX6_sayShip_73 : decode cX6_sayShip 73 = .ok (.invokevirtual 280, 3) := by decide +kernel
theorem dX6_sayShip_76 : decode cX6_sayShip 76 = .ok (.aload_n 0, 1) := by decide +kernel
theorem dX6_sayShip_77 : decode cX6_sayShip 77 = .ok (.aload_n 0, 1) := by decide +kernel
theorem dX6_sayShip_78 : decode cX6_sayShip 78 = .ok (.iload_n 1, 1) := by decide +kernel
theorem dX6_sayShip_79 : decode cX6_sayShip 79 = .ok (.bipush 14, 2) := by decide +kernel
theorem dX6_sayShip_81 : decode cX6_sayShip 81 = .ok (.invokevirtual 217, 3) := by decide +kernel
theorem dX6_sayShip_84 : decode cX6_sayShip 84 = .ok (.i2l, 1) := by decide +kernel
theorem dX6_sayShip_85 : decode cX6_sayShip 85 = .ok (.invokevirtual 280, 3) := by decide +kernel
theorem dX6_sayShip_88 : decode cX6_sayShip 88 = .ok (.aload_n 0, 1) := by decide +kernel
theorem dX6_sayShip_89 : decode cX6_sayShip 89 = .ok (.aload_n 0, 1) := by decide +kernel
theorem dX6_sayShip_90 : decode cX6_sayShip 90 = .ok (.iload_n 1, 1) := by decide +kernel
theorem dX6_sayShip_91 : decode cX6_sayShip 91 = .ok (.bipush 14, 2) := by decide +kernel
theorem dX6_sayShip_93 : decode cX6_sayShip 93 = .ok (.invokevirtual 220, 3) := by decide +kernel
theorem dX6_sayShip_96 : decode cX6_sayShip 96 = .ok (.i2l, 1) := by decide +kernel
theorem dX6_sayShip_97 : decode cX6_sayShip 97 = .ok (.invokevirtual 280, 3) := by decide +kernel
theorem dX6_sayShip_100 : decode cX6_sayShip 100 = .ok (.aload_n 0, 1) := by decide +kernel
theorem dX6_sayShip_101 : decode cX6_sayShip 101 = .ok (.aload_n 0, 1) := by decide +kernel
theorem dX6_sayShip_102 : decode cX6_sayShip 102 = .ok (.iload_n 1, 1) := by decide +kernel
theorem dX6_sayShip_103 : decode cX6_sayShip 103 = .ok (.bipush 9, 2) := by decide +kernel
theorem dX6_sayShip_105 : decode cX6_sayShip 105 = .ok (.invokevirtual 227, 3) := by decide +kernel
theorem dX6_sayShip_108 : decode cX6_sayShip 108 = .ok (.i2l, 1) := by decide +kernel
theorem dX6_sayShip_109 : decode cX6_sayShip 109 = .ok (.invokevirtual 280, 3) := by decide +kernel
theorem dX6_sayShip_112 : decode cX6_sayShip 112 = .ok (.return_, 1) := by decide +kernel
set_option maxRecDepth 20000 in
theorem ggX6_saySea_X6_tellLodger : GoodIn wsX6_saySea wsX6_tellLodger := goodIn_r _ [7, 8, 9, 10, 11, 12, 6, 13, 14, 15, 16, 17, 18, 19, 20, 21, 22, 23, 24, 25, 26, 27, 28, 29, 30, 31, 32, 33, 34, 35, 36, 37, 38, 39, 40, 115, 116, 117, 118, 119, 120, 121, 122, 123, 124, 125, 126, 127, 128, 129, 130, 131, 132, 133, 134, 135, 136, 137, 138, 139, 140, 141, 142, 143, 144] (by decide +kernel) (by decide +kernel)
set_option maxRecDepth 20000 in
theorem gX6_saySea_X6_tellLodger : GoodIn wsX6_saySea (wsV RX6 158 RX6 yX6_tellLodger wsX6_tellLodger) := goodIn_app (goodIn_of _ (by decide +kernel)) ggX6_saySea_X6_tellLodger
set_option maxRecDepth 20000 in
theorem ggX6_saySea_X6_say : GoodIn wsX6_saySea wsX6_say := goodIn_r _ [44, 45, 46, 115, 116, 117, 118, 119, 120, 121, 122, 123, 124, 125, 126, 127, 128, 129, 130, 131, 132, 133, 134, 135, 136, 137, 138, 139, 140, 141, 142, 143, 144] (by decide +kernel) (by decide +kernel)
set_option maxRecDepth 20000 in
theorem gX6_saySea_X6_say : GoodIn wsX6_saySea (wsV RX6 280 RX6 yX6_say wsX6_say) := goodIn_app (goodIn_of _ (by decide +kernel)) ggX6_saySea_X6_say
set_option maxRecDepth 20000 in
theorem ggX6_saySea_X6_sayShip : GoodIn wsX6_saySea wsX6_sayShip := goodIn_r _ [50, 51, 52, 53, 6, 54, 55, 56, 57, 58, 59, 60, 9, 15, 16, 17, 18, 19, 8, 14, 20, 21, 22, 61, 62, 63, 64, 65, 2, 66, 67, 68, 41, 42, 43, 44, 45, 46, 69, 70, 71, 72, 73, 74, 75, 76, 77, 78, 79, 80, 81, 82, 83, 84, 85, 86, 87, 88, 89, 90, 91, 92, 93, 94, 95, 96, 97, 98, 99, 100, 101, 102, 103, 104, 105, 106, 107, 108, 109, 110, 111, 112, 113, 114, 115, 116, 117, 118, 119, 120, 121, 122, 123, 124, 125, 126, 127, 128, 129, 130, 131, 132, 133, 134, 135, 136, 137, 138, 139, 140, 141, 142, 143, 144] (by decide +kernel) (by decide +kernel)
set_option maxRecDepth 20000 in
theorem gX6_saySea_X6_sayShip : GoodIn wsX6_saySea (wsV RX6 284 RX6 yX6_sayShip wsX6_sayShip) := goodIn_app (goodIn_of _ (by decide +kernel)) ggX6_saySea_X6_sayShip
theorem dX6_saySea_0 : decode cX6_saySea 0 = .ok (.iconst 0, 1) := by decide +kernel
theorem dX6_saySea_1 : decode cX6_saySea 1 = .ok (.istore_n 1, 1) := by decide +kernel
theorem dX6_saySea_2 : decode cX6_saySea 2 = .ok (.iload_n 1, 1) := by decide +kernel
theorem dX6_saySea_3 : decode cX6_saySea 3 = .ok (.iconst 4, 1) := by decide +kernel
theorem dX6_saySea_4 : decode cX6_saySea 4 = .ok (.if_icmp .ge 34, 3) := by decide +kernel
theorem dX6_saySea_7 : decode cX6_saySea 7 = .ok (.iconst 0, 1) := by decide +kernel
theorem dX6_saySea_8 : decode cX6_saySea 8 = .ok (.istore_n 2, 1) := by decide +kernel
theorem dX6_saySea_9 : decode cX6_saySea 9 = .ok (.iload_n 2, 1) := by decide +kernel
theorem dX6_saySea_10 : decode cX6_saySea 10 = .ok (.bipush 6, 2) := by decide +kernel
theorem dX6_saySea_12 : decode cX6_saySea 12 = .ok (.if_icmp .ge 20, 3) := by decide +kernel
theorem dX6_saySea_15 : decode cX6_saySea 15 = .ok (.aload_n 0, 1) := by decide +kernel
theorem dX6_saySea_16 : decode cX6_saySea 16 = .ok (.aload_n 0, 1) := by decide +kernel
theorem dX6_saySea_17 : decode cX6_saySea 17 = .ok (.iload_n 1, 1) := by decide +kernel
theorem dX6_saySea_18 : decode cX6_saySea 18 = .ok (.iload_n 2, 1) := by decide +kernel
theorem dX6_saySea_19 : decode cX6_saySea 19 = .ok (.invokevirtual 158, 3) := by decide +kernel
theorem dX6_saySea_22 : decode cX6_saySea 22 = .ok (.i2l, 1) := by decide +kernel
theorem dX6_saySea_23 : decode cX6_saySea 23 = .ok (.invokevirtual 280, 3) := by decide +kernel
theorem dX6_saySea_26 : decode cX6_saySea 26 = .ok (.iinc 2 1, 3) := by decide +kernel
theorem dX6_saySea_29 : decode cX6_saySea 29 = .ok (.goto (-20), 3) := by decide +kernel
theorem dX6_saySea_32 : decode cX6_saySea 32 = .ok (.iinc 1 1, 3) := by decide +kernel
theorem dX6_saySea_35 : decode cX6_saySea 35 = .ok (.goto (-33), 3) := by decide +kernel
theorem dX6_saySea_38 : decode cX6_saySea 38 = .ok (.iconst 0, 1) := by decide +kernel
theorem dX6_saySea_39 : decode cX6_saySea 39 = .ok (.istore_n 1, 1) := by decide +kernel
theorem dX6_saySea_40 : decode cX6_saySea 40 = .ok (.iload_n 1, 1) := by decide +kernel
theorem dX6_saySea_41 : decode cX6_saySea 41 = .ok (.aload_n 0, 1) := by decide +kernel
theorem dX6_saySea_42 : decode cX6_saySea 42 = .ok (.getfield 99, 3) := by decide +kernel
theorem dX6_saySea_45 : decode cX6_saySea 45 = .ok (.if_icmp .ge 14, 3) := by decide +kernel
theorem dX6_saySea_48 : decode cX6_saySea 48 = .ok (.aload_n 0, 1) := by decide +kernel
