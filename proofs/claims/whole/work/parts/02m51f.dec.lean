theorem dX12_turned_8 : decode cX12_turned 8 = .ok (.iload_n 2, 1) := by decide +kernel
theorem dX12_turned_9 : decode cX12_turned 9 = .ok (.iadd, 1) := by decide +kernel
theorem dX12_turned_10 : decode cX12_turned 10 = .ok (.iaload, 1) := by decide +kernel
theorem dX12_turned_11 : decode cX12_turned 11 = .ok (.aload_n 0, 1) := by decide +kernel
theorem dX12_turned_12 : decode cX12_turned 12 = .ok (.iload_n 3, 1) := by decide +kernel
theorem dX12_turned_13 : decode cX12_turned 13 = .ok (.aload_n 0, 1) := by decide +kernel
theorem dX12_turned_14 : decode cX12_turned 14 = .ok (.getfield 11, 3) := by decide +kernel
theorem dX12_turned_17 : decode cX12_turned 17 = .ok (.iload_n 2, 1) := by decide +kernel
theorem dX12_turned_18 : decode cX12_turned 18 = .ok (.invokestatic 14, 3) := by decide +kernel
theorem dX12_turned_21 : decode cX12_turned 21 = .ok (.iconst 1, 1) := by decide +kernel
theorem dX12_turned_22 : decode cX12_turned 22 = .ok (.isub, 1) := by decide +kernel
theorem dX12_turned_23 : decode cX12_turned 23 = .ok (.i2l, 1) := by decide +kernel
theorem dX12_turned_24 : decode cX12_turned 24 = .ok (.invokevirtual 125, 3) := by decide +kernel
theorem dX12_turned_27 : decode cX12_turned 27 = .ok (.invokevirtual 119, 3) := by decide +kernel
theorem dX12_turned_30 : decode cX12_turned 30 = .ok (.ireturn, 1) := by decide +kernel
set_option maxRecDepth 20000 in
theorem ggX12_turn_X12_isPlace : GoodIn wsX12_turn wsX12_isPlace := goodIn_r _ [9, 10, 11, 12, 8, 13] (by decide +kernel) (by decide +kernel)
set_option maxRecDepth 20000 in
theorem gX12_turn_X12_isPlace : GoodIn wsX12_turn (va_wsS RX12 181 yX12_isPlace wsX12_isPlace) := goodIn_app (goodIn_of _ (by decide +kernel)) ggX12_turn_X12_isPlace
set_option maxRecDepth 20000 in
theorem ggX12_turn_X12_in : GoodIn wsX12_turn wsX12_in := goodIn_r _ [13] (by decide +kernel) (by decide +kernel)
set_option maxRecDepth 20000 in
theorem gX12_turn_X12_in : GoodIn wsX12_turn (va_wsS RX12 129 yX12_in wsX12_in) := goodIn_app (goodIn_of _ (by decide +kernel)) ggX12_turn_X12_in
set_option maxRecDepth 20000 in
theorem ggX12_turn_X12_found : GoodIn wsX12_turn wsX12_found := goodIn_r _ [17, 18, 19, 88, 89, 90, 91, 92, 93, 94, 95, 96, 97, 98, 99, 100, 101, 102, 103, 104, 105, 106, 107, 108, 109, 110, 111, 112, 113, 114, 115, 116] (by decide +kernel) (by decide +kernel)
set_option maxRecDepth 20000 in
theorem gX12_turn_X12_found : GoodIn wsX12_turn (wsV RX12 154 RX12 yX12_found wsX12_found) := goodIn_app (goodIn_of _ (by decide +kernel)) ggX12_turn_X12_found
set_option maxRecDepth 20000 in
theorem ggX12_turn_X12_turned : GoodIn wsX12_turn wsX12_turned := goodIn_r _ [23, 24, 25, 26, 27, 8, 28, 29, 30, 31, 32, 33, 34, 2, 35, 36, 37, 38, 88, 89, 90, 91, 92, 93, 94, 95, 96, 97, 98, 99, 100, 101, 102, 103, 104, 105, 106, 107, 108, 109, 110, 111, 112, 113, 114, 115, 116] (by decide +kernel) (by decide +kernel)
set_option maxRecDepth 20000 in
theorem gX12_turn_X12_turned : GoodIn wsX12_turn (wsV RX12 187 RX12 yX12_turned wsX12_turned) := goodIn_app (goodIn_of _ (by decide +kernel)) ggX12_turn_X12_turned
set_option maxRecDepth 20000 in
theorem ggX12_turn_X12_lay : GoodIn wsX12_turn wsX12_lay := goodIn_r _ [42, 18, 4, 24, 5, 43, 44, 45, 8, 46, 47, 48, 49, 50, 51, 52, 53, 54, 55, 56, 57, 58, 59, 60, 25, 29, 30, 31, 32, 33, 34, 2, 61, 62, 63, 64, 65, 35, 36, 37, 38, 66, 67, 68, 69, 70, 71, 72, 73, 74, 75, 76, 77, 78, 79, 80, 81, 82, 83, 84, 85, 86, 87, 88, 89, 90, 91, 92, 93, 94, 95, 96, 97, 98, 99, 100, 101, 102, 103, 104, 105, 106, 107, 108, 109, 110, 111, 112, 113, 114, 115, 116] (by decide +kernel) (by decide +kernel)
set_option maxRecDepth 20000 in
theorem gX12_turn_X12_lay : GoodIn wsX12_turn (wsV RX12 184 RX12 yX12_lay wsX12_lay) := goodIn_app (goodIn_of _ (by decide +kernel)) ggX12_turn_X12_lay
theorem dX12_turn_0 : decode cX12_turn 0 = .ok (.aload_n 0, 1) := by decide +kernel
theorem dX12_turn_1 : decode cX12_turn 1 = .ok (.iconst 0, 1) := by decide +kernel
theorem dX12_turn_2 : decode cX12_turn 2 = .ok (.putfield 1, 3) := by decide +kernel
theorem dX12_turn_5 : decode cX12_turn 5 = .ok (.iload_n 1, 1) := by decide +kernel
theorem dX12_turn_6 : decode cX12_turn 6 = .ok (.invokestatic 181, 3) := by decide +kernel
theorem dX12_turn_9 : decode cX12_turn 9 = .ok (.ifCond .eq 26, 3) := by decide +kernel
theorem dX12_turn_12 : decode cX12_turn 12 = .ok (.iload_n 2, 1) := by decide +kernel
theorem dX12_turn_13 : decode cX12_turn 13 = .ok (.invokestatic 181, 3) := by decide +kernel
theorem dX12_turn_16 : decode cX12_turn 16 = .ok (.ifCond .eq 19, 3) := by decide +kernel
theorem dX12_turn_19 : decode cX12_turn 19 = .ok (.iload_n 3, 1) := by decide +kernel
theorem dX12_turn_20 : decode cX12_turn 20 = .ok (.i2l, 1) := by decide +kernel
theorem dX12_turn_21 : decode cX12_turn 21 = .ok (.lconst 1, 1) := by decide +kernel
theorem dX12_turn_22 : decode cX12_turn 22 = .ok (.aload_n 0, 1) := by decide +kernel
theorem dX12_turn_23 : decode cX12_turn 23 = .ok (.getfield 109, 3) := by decide +kernel
theorem dX12_turn_26 : decode cX12_turn 26 = .ok (.iconst 1, 1) := by decide +kernel
theorem dX12_turn_27 : decode cX12_turn 27 = .ok (.isub, 1) := by decide +kernel
theorem dX12_turn_28 : decode cX12_turn 28 = .ok (.i2l, 1) := by decide +kernel
theorem dX12_turn_29 : decode cX12_turn 29 = .ok (.invokestatic 129, 3) := by decide +kernel
theorem dX12_turn_32 : decode cX12_turn 32 = .ok (.ifCond .ne 6, 3) := by decide +kernel
theorem dX12_turn_35 : decode cX12_turn 35 = .ok (.ldc 141, 2) := by decide +kernel
theorem dX12_turn_37 : decode cX12_turn 37 = .ok (.ireturn, 1) := by decide +kernel
theorem dX12_turn_38 : decode cX12_turn 38 = .ok (.aload_n 0, 1) := by decide +kernel
theorem dX12_turn_39 : decode cX12_turn 39 = .ok (.getfield 70, 3) := by decide +kernel
theorem dX12_turn_42 : decode cX12_turn 42 = .ok (.iload_n 2, 1) := by decide +kernel
theorem dX12_turn_43 : decode cX12_turn 43 = .ok (.iaload, 1) := by decide +kernel
theorem dX12_turn_44 : decode cX12_turn 44 = .ok (.ifCond .ne 9, 3) := by decide +kernel
theorem dX12_turn_47 : decode cX12_turn 47 = .ok (.aload_n 0, 1) := by decide +kernel
theorem dX12_turn_48 : decode cX12_turn 48 = .ok (.iconst 1, 1) := by decide +kernel
theorem dX12_turn_49 : decode cX12_turn 49 = .ok (.invokevirtual 154, 3) := by decide +kernel
theorem dX12_turn_52 : decode cX12_turn 52 = .ok (.ireturn, 1) := by decide +kernel
theorem dX12_turn_53 : decode cX12_turn 53 = .ok (.iconst 0, 1) := by decide +kernel
theorem dX12_turn_54 : decode cX12_turn 54 = .ok (.istore 4, 2) := by decide +kernel
theorem dX12_turn_56 : decode cX12_turn 56 = .ok (.iload 4, 2) := by decide +kernel
theorem dX12_turn_58 : decode cX12_turn 58 = .ok (.aload_n 0, 1) := by decide +kernel
theorem dX12_turn_59 : decode cX12_turn 59 = .ok (.getfield 70, 3) := by decide +kernel
theorem dX12_turn_62 : decode cX12_turn 62 = .ok (.iload_n 2, 1) := by decide +kernel
theorem dX12_turn_63 : decode cX12_turn 63 = .ok (.iaload, 1) := by decide +kernel
theorem dX12_turn_64 : decode cX12_turn 64 = .ok (.if_icmp .gt 24, 3) := by decide +kernel
theorem dX12_turn_67 : decode cX12_turn 67 = .ok (.aload_n 0, 1) := by decide +kernel
theorem dX12_turn_68 : decode cX12_turn 68 = .ok (.getfield 88, 3) := by decide +kernel
theorem dX12_turn_71 : decode cX12_turn 71 = .ok (.iload 4, 2) := by decide +kernel
theorem dX12_turn_73 : decode cX12_turn 73 = .ok (.aload_n 0, 1) := by decide +kernel
theorem dX12_turn_74 : decode cX12_turn 74 = .ok (.iload_n 2, 1) := by decide +kernel
theorem dX12_turn_75 : decode cX12_turn 75 = .ok (.iload 4, 2) := by decide +kernel
theorem dX12_turn_77 : decode cX12_turn 77 = .ok (.iload_n 3, 1) := by decide +kernel
theorem dX12_turn_78 : decode cX12_turn 78 = .ok (.invokevirtual 187, 3) := by decide +kernel
theorem dX12_turn_81 : decode cX12_turn 81 = .ok (.iastore, 1) := by decide +kernel
theorem dX12_turn_82 : decode cX12_turn 82 = .ok (.iinc 4 1, 3) := by decide +kernel
theorem dX12_turn_85 : decode cX12_turn 85 = .ok (.goto (-29), 3) := by decide +kernel
theorem dX12_turn_88 : decode cX12_turn 88 = .ok (.aload_n 0, 1) := by decide +kernel
theorem dX12_turn_89 : decode cX12_turn 89 = .ok (.iload_n 1, 1) := by decide +kernel
theorem dX12_turn_90 : decode cX12_turn 90 = .ok (.aload_n 0, 1) := by decide +kernel
theorem dX12_turn_91 : decode cX12_turn 91 = .ok (.getfield 70, 3) := by decide +kernel
theorem dX12_turn_94 : decode cX12_turn 94 = .ok (.iload_n 2, 1) := by decide +kernel
theorem dX12_turn_95 : decode cX12_turn 95 = .ok (.iaload, 1) := by decide +kernel
theorem dX12_turn_96 : decode cX12_turn 96 = .ok (.invokevirtual 184, 3) := by decide +kernel
theorem dX12_turn_99 : decode cX12_turn 99 = .ok (.ireturn, 1) := by decide +kernel
set_option maxRecDepth 20000 in
theorem ggX12_lookMap_X12_isPlace : GoodIn wsX12_lookMap wsX12_isPlace := goodIn_r _ [11, 12, 13, 14, 10, 15] (by decide +kernel) (by decide +kernel)
set_option maxRecDepth 20000 in
theorem gX12_lookMap_X12_isPlace : GoodIn wsX12_lookMap (va_wsS RX12 181 yX12_isPlace wsX12_isPlace) := goodIn_app (goodIn_of _ (by decide +kernel)) ggX12_lookMap_X12_isPlace
set_option maxRecDepth 20000 in
theorem ggX12_lookMap_X12_isRow : GoodIn wsX12_lookMap wsX12_isRow := goodIn_r _ [18, 19, 13, 14, 10, 15] (by decide +kernel) (by decide +kernel)
set_option maxRecDepth 20000 in
theorem gX12_lookMap_X12_isRow : GoodIn wsX12_lookMap (va_wsS RX12 149 yX12_isRow wsX12_isRow) := goodIn_app (goodIn_of _ (by decide +kernel)) ggX12_lookMap_X12_isRow
set_option maxRecDepth 20000 in
theorem ggX12_lookMap_X12_in : GoodIn wsX12_lookMap wsX12_in := goodIn_r _ [15] (by decide +kernel) (by decide +kernel)
set_option maxRecDepth 20000 in
theorem gX12_lookMap_X12_in : GoodIn wsX12_lookMap (va_wsS RX12 129 yX12_in wsX12_in) := goodIn_app (goodIn_of _ (by decide +kernel)) ggX12_lookMap_X12_in
set_option maxRecDepth 20000 in
theorem ggX12_lookMap_X12_found : GoodIn wsX12_lookMap wsX12_found := goodIn_r _ [23, 24, 25, 31, 32, 33, 34, 35, 36, 37, 38, 39, 40, 41, 42, 43, 44, 45, 46, 47, 48, 49, 50, 51, 52, 53, 54, 55, 56, 57, 58, 59] (by decide +kernel) (by decide +kernel)
set_option maxRecDepth 20000 in
theorem gX12_lookMap_X12_found : GoodIn wsX12_lookMap (wsV RX12 154 RX12 yX12_found wsX12_found) := goodIn_app (goodIn_of _ (by decide +kernel)) ggX12_lookMap_X12_found
set_option maxRecDepth 20000 in
theorem ggX12_lookMap_X12_isElement : GoodIn wsX12_lookMap wsX12_isElement := goodIn_r _ [29, 30, 13, 14, 10, 15, 31, 32, 33, 34, 35, 36, 37, 38, 39, 40, 41, 42, 43, 44, 45, 46, 47, 48, 49, 50, 51, 52, 53, 54, 55, 56, 57, 58, 59] (by decide +kernel) (by decide +kernel)
set_option maxRecDepth 20000 in
theorem gX12_lookMap_X12_isElement : GoodIn wsX12_lookMap (wsV RX12 133 RX12 yX12_isElement wsX12_isElement) := goodIn_app (goodIn_of _ (by decide +kernel)) ggX12_lookMap_X12_isElement
theorem dX12_lookMap_0 : decode cX12_lookMap 0 = .ok (.iload_n 1, 1) := by decide +kernel
theorem dX12_lookMap_1 : decode cX12_lookMap 1 = .ok (.invokestatic 181, 3) := by decide +kernel
theorem dX12_lookMap_4 : decode cX12_lookMap 4 = .ok (.ifCond .eq 23, 3) := by decide +kernel
theorem dX12_lookMap_7 : decode cX12_lookMap 7 = .ok (.iload_n 2, 1) := by decide +kernel
theorem dX12_lookMap_8 : decode cX12_lookMap 8 = .ok (.invokestatic 149, 3) := by decide +kernel
theorem dX12_lookMap_11 : decode cX12_lookMap 11 = .ok (.ifCond .eq 16, 3) := by decide +kernel
theorem dX12_lookMap_14 : decode cX12_lookMap 14 = .ok (.iload 4, 2) := by decide +kernel
theorem dX12_lookMap_16 : decode cX12_lookMap 16 = .ok (.i2l, 1) := by decide +kernel
theorem dX12_lookMap_17 : decode cX12_lookMap 17 = .ok (.lconst 1, 1) := by decide +kernel
theorem dX12_lookMap_18 : decode cX12_lookMap 18 = .ok (.ldc2_w 191, 3) := by decide +kernel
theorem dX12_lookMap_21 : decode cX12_lookMap 21 = .ok (.invokestatic 129, 3) := by decide +kernel
theorem dX12_lookMap_24 : decode cX12_lookMap 24 = .ok (.ifCond .ne 6, 3) := by decide +kernel
theorem dX12_lookMap_27 : decode cX12_lookMap 27 = .ok (.ldc 141, 2) := by decide +kernel
theorem dX12_lookMap_29 : decode cX12_lookMap 29 = .ok (.ireturn, 1) := by decide +kernel
theorem dX12_lookMap_30 : decode cX12_lookMap 30 = .ok (.aload_n 0, 1) := by decide +kernel
theorem dX12_lookMap_31 : decode cX12_lookMap 31 = .ok (.getfield 70, 3) := by decide +kernel
theorem dX12_lookMap_34 : decode cX12_lookMap 34 = .ok (.iload_n 1, 1) := by decide +kernel
theorem dX12_lookMap_35 : decode cX12_lookMap 35 = .ok (.iaload, 1) := by decide +kernel
theorem dX12_lookMap_36 : decode cX12_lookMap 36 = .ok (.ifCond .eq 12, 3) := by decide +kernel
theorem dX12_lookMap_39 : decode cX12_lookMap 39 = .ok (.aload_n 0, 1) := by decide +kernel
theorem dX12_lookMap_40 : decode cX12_lookMap 40 = .ok (.getfield 61, 3) := by decide +kernel
theorem dX12_lookMap_43 : decode cX12_lookMap 43 = .ok (.iload_n 2, 1) := by decide +kernel
theorem dX12_lookMap_44 : decode cX12_lookMap 44 = .ok (.iaload, 1) := by decide +kernel
theorem dX12_lookMap_45 : decode cX12_lookMap 45 = .ok (.ifCond .ge 9, 3) := by decide +kernel
theorem dX12_lookMap_48 : decode cX12_lookMap 48 = .ok (.aload_n 0, 1) := by decide +kernel
theorem dX12_lookMap_49 : decode cX12_lookMap 49 = .ok (.iconst 1, 1) := by decide +kernel
theorem dX12_lookMap_50 : decode cX12_lookMap 50 = .ok (.invokevirtual 154, 3) := by decide +kernel
theorem dX12_lookMap_53 : decode cX12_lookMap 53 = .ok (.ireturn, 1) := by decide +kernel
theorem dX12_lookMap_54 : decode cX12_lookMap 54 = .ok (.iload_n 3, 1) := by decide +kernel
theorem dX12_lookMap_55 : decode cX12_lookMap 55 = .ok (.ifCond .lt 22, 3) := by decide +kernel
theorem dX12_lookMap_58 : decode cX12_lookMap 58 = .ok (.iload_n 3, 1) := by decide +kernel
theorem dX12_lookMap_59 : decode cX12_lookMap 59 = .ok (.i2l, 1) := by decide +kernel
theorem dX12_lookMap_60 : decode cX12_lookMap 60 = .ok (.iload 4, 2) := by decide +kernel
theorem dX12_lookMap_62 : decode cX12_lookMap 62 = .ok (.i2l, 1) := by decide +kernel
theorem dX12_lookMap_63 : decode cX12_lookMap 63 = .ok (.ladd, 1) := by decide +kernel
theorem dX12_lookMap_64 : decode cX12_lookMap 64 = .ok (.lconst 1, 1) := by decide +kernel
theorem dX12_lookMap_65 : decode cX12_lookMap 65 = .ok (.ladd, 1) := by decide +kernel
theorem dX12_lookMap_66 : decode cX12_lookMap 66 = .ok (.aload_n 0, 1) := by decide +kernel
theorem dX12_lookMap_67 : decode cX12_lookMap 67 = .ok (.getfield 64, 3) := by decide +kernel
theorem dX12_lookMap_70 : decode cX12_lookMap 70 = .ok (.iload_n 2, 1) := by decide +kernel
theorem dX12_lookMap_71 : decode cX12_lookMap 71 = .ok (.iaload, 1) := by decide +kernel
theorem dX12_lookMap_72 : decode cX12_lookMap 72 = .ok (.i2l, 1) := by decide +kernel
theorem dX12_lookMap_73 : decode cX12_lookMap 73 = .ok (.lcmp, 1) := by decide +kernel
theorem dX12_lookMap_74 : decode cX12_lookMap 74 = .ok (.ifCond .le 9, 3) := by decide +kernel
theorem dX12_lookMap_77 : decode cX12_lookMap 77 = .ok (.aload_n 0, 1) := by decide +kernel
theorem dX12_lookMap_78 : decode cX12_lookMap 78 = .ok (.iconst 2, 1) := by decide +kernel
theorem dX12_lookMap_79 : decode cX12_lookMap 79 = .ok (.invokevirtual 154, 3) := by decide +kernel
theorem dX12_lookMap_82 : decode cX12_lookMap 82 = .ok (.ireturn, 1) := by decide +kernel
theorem dX12_lookMap_83 : decode cX12_lookMap 83 = .ok (.iconst 0, 1) := by decide +kernel
theorem dX12_lookMap_84 : decode cX12_lookMap 84 = .ok (.istore 5, 2) := by decide +kernel
theorem dX12_lookMap_86 : decode cX12_lookMap 86 = .ok (.iload 5, 2) := by decide +kernel
theorem dX12_lookMap_88 : decode cX12_lookMap 88 = .ok (.iconst 5, 1) := by decide +kernel
theorem dX12_lookMap_89 : decode cX12_lookMap 89 = .ok (.if_icmp .ge 58, 3) := by decide +kernel
theorem dX12_lookMap_92 : decode cX12_lookMap 92 = .ok (.aload_n 0, 1) := by decide +kernel
theorem dX12_lookMap_93 : decode cX12_lookMap 93 = .ok (.getfield 91, 3) := by decide +kernel
theorem dX12_lookMap_96 : decode cX12_lookMap 96 = .ok (.iload 5, 2) := by decide +kernel
theorem dX12_lookMap_98 : decode cX12_lookMap 98 = .ok (.iload 5, 2) := by decide +kernel
theorem dX12_lookMap_100 : decode cX12_lookMap 100 = .ok (.iload 4, 2) := by decide +kernel
theorem dX12_lookMap_102 : decode cX12_lookMap 102 = .ok (.if_icmp .le 7, 3) := by decide +kernel
theorem dX12_lookMap_105 : decode cX12_lookMap 105 = .ok (.iconst 0, 1) := by decide +kernel
theorem dX12_lookMap_106 : decode cX12_lookMap 106 = .ok (.goto 17, 3) := by decide +kernel
theorem dX12_lookMap_109 : decode cX12_lookMap 109 = .ok (.aload_n 0, 1) := by decide +kernel
theorem dX12_lookMap_110 : decode cX12_lookMap 110 = .ok (.getfield 67, 3) := by decide +kernel
theorem dX12_lookMap_113 : decode cX12_lookMap 113 = .ok (.bipush 24, 2) := by decide +kernel
theorem dX12_lookMap_115 : decode cX12_lookMap 115 = .ok (.iload_n 2, 1) := by decide +kernel
theorem dX12_lookMap_116 : decode cX12_lookMap 116 = .ok (.imul, 1) := by decide +kernel
theorem dX12_lookMap_117 : decode cX12_lookMap 117 = .ok (.iload_n 3, 1) := by decide +kernel
theorem dX12_lookMap_118 : decode cX12_lookMap 118 = .ok (.iadd, 1) := by decide +kernel
theorem dX12_lookMap_119 : decode cX12_lookMap 119 = .ok (.iload 5, 2) := by decide +kernel
theorem dX12_lookMap_121 : decode cX12_lookMap 121 = .ok (.iadd, 1) := by decide +kernel
theorem dX12_lookMap_122 : decode cX12_lookMap 122 = .ok (.iaload, 1) := by decide +kernel
theorem dX12_lookMap_123 : decode cX12_lookMap 123 = .ok (.iastore, 1) := by decide +kernel
theorem dX12_lookMap_124 : decode cX12_lookMap 124 = .ok (.aload_n 0, 1) := by decide +kernel
theorem dX12_lookMap_125 : decode cX12_lookMap 125 = .ok (.aload_n 0, 1) := by decide +kernel
theorem dX12_lookMap_126 : decode cX12_lookMap 126 = .ok (.getfield 91, 3) := by decide +kernel
theorem dX12_lookMap_129 : decode cX12_lookMap 129 = .ok (.iload 5, 2) := by decide +kernel
theorem dX12_lookMap_131 : decode cX12_lookMap 131 = .ok (.iaload, 1) := by decide +kernel
theorem dX12_lookMap_132 : decode cX12_lookMap 132 = .ok (.invokevirtual 133, 3) := by decide +kernel
theorem dX12_lookMap_135 : decode cX12_lookMap 135 = .ok (.ifCond .ne 6, 3) := by decide +kernel
theorem dX12_lookMap_138 : decode cX12_lookMap 138 = .ok (.ldc 141, 2) := by decide +kernel
theorem dX12_lookMap_140 : decode cX12_lookMap 140 = .ok (.ireturn, 1) := by decide +kernel
theorem dX12_lookMap_141 : decode cX12_lookMap 141 = .ok (.iinc 5 1, 3) := by decide +kernel
theorem dX12_lookMap_144 : decode cX12_lookMap 144 = .ok (.goto (-58), 3) := by decide +kernel
theorem dX12_lookMap_147 : decode cX12_lookMap 147 = .ok (.aload_n 0, 1) := by decide +kernel
theorem dX12_lookMap_148 : decode cX12_lookMap 148 = .ok (.getfield 91, 3) := by decide +kernel
theorem dX12_lookMap_151 : decode cX12_lookMap 151 = .ok (.iconst 0, 1) := by decide +kernel
theorem dX12_lookMap_152 : decode cX12_lookMap 152 = .ok (.iaload, 1) := by decide +kernel
theorem dX12_lookMap_153 : decode cX12_lookMap 153 = .ok (.ifCond .eq 13, 3) := by decide +kernel
theorem dX12_lookMap_156 : decode cX12_lookMap 156 = .ok (.aload_n 0, 1) := by decide +kernel
theorem dX12_lookMap_157 : decode cX12_lookMap 157 = .ok (.getfield 91, 3) := by decide +kernel
theorem dX12_lookMap_160 : decode cX12_lookMap 160 = .ok (.iload 4, 2) := by decide +kernel
theorem dX12_lookMap_162 : decode cX12_lookMap 162 = .ok (.iaload, 1) := by decide +kernel
theorem dX12_lookMap_163 : decode cX12_lookMap 163 = .ok (.ifCond .ne 8, 3) := by decide +kernel
theorem dX12_lookMap_166 : decode cX12_lookMap 166 = .ok (.ldc 141, 2) := by decide +kernel
theorem dX12_lookMap_168 : decode cX12_lookMap 168 = .ok (.goto 4, 3) := by decide +kernel
theorem dX12_lookMap_171 : decode cX12_lookMap 171 = .ok (.iconst 0, 1) := by decide +kernel
theorem dX12_lookMap_172 : decode cX12_lookMap 172 = .ok (.ireturn, 1) := by decide +kernel
set_option maxRecDepth 20000 in
theorem ggX12_map_X12_isPlace : GoodIn wsX12_map wsX12_isPlace := goodIn_r _ [13, 14, 15, 16, 12, 17] (by decide +kernel) (by decide +kernel)
set_option maxRecDepth 20000 in
theorem gX12_map_X12_isPlace : GoodIn wsX12_map (va_wsS RX12 181 yX12_isPlace wsX12_isPlace) := goodIn_app (goodIn_of _ (by decide +kernel)) ggX12_map_X12_isPlace
set_option maxRecDepth 20000 in
theorem ggX12_map_X12_lookMap : GoodIn wsX12_map wsX12_lookMap := goodIn_r _ [21, 22, 2, 4, 23, 24, 6, 25, 10, 11, 12, 13, 14, 15, 16, 17, 26, 27, 28, 29, 30, 31, 32, 33, 3, 34, 35, 36, 37, 38, 39, 103, 104, 105, 106, 107, 108, 109, 110, 111, 112, 113, 114, 115, 116, 117, 118, 119, 120, 121, 122, 123, 124, 125, 126, 127, 128, 129, 130, 131] (by decide +kernel) (by decide +kernel)
set_option maxRecDepth 20000 in
theorem gX12_map_X12_lookMap : GoodIn wsX12_map (wsV RX12 193 RX12 yX12_lookMap wsX12_lookMap) := goodIn_app (goodIn_of _ (by decide +kernel)) ggX12_map_X12_lookMap
set_option maxRecDepth 20000 in
theorem ggX12_map_X12_far : GoodIn wsX12_map wsX12_far := goodIn_r _ [43, 44, 45, 46, 47, 48, 12, 49, 50, 51, 39, 103, 104, 105, 106, 107, 108, 109, 110, 111, 112, 113, 114, 115, 116, 117, 118, 119, 120, 121, 122, 123, 124, 125, 126, 127, 128, 129, 130, 131] (by decide +kernel) (by decide +kernel)
set_option maxRecDepth 20000 in
theorem gX12_map_X12_far : GoodIn wsX12_map (wsV RX12 159 RX12 yX12_far wsX12_far) := goodIn_app (goodIn_of _ (by decide +kernel)) ggX12_map_X12_far
set_option maxRecDepth 20000 in
theorem ggX12_map_X12_times : GoodIn wsX12_map wsX12_times := goodIn_r _ [55, 50, 51, 39, 103, 104, 105, 106, 107, 108, 109, 110, 111, 112, 113, 114, 115, 116, 117, 118, 119, 120, 121, 122, 123, 124, 125, 126, 127, 128, 129, 130, 131] (by decide +kernel) (by decide +kernel)
set_option maxRecDepth 20000 in
theorem gX12_map_X12_times : GoodIn wsX12_map (wsV RX12 119 RX12 yX12_times wsX12_times) := goodIn_app (goodIn_of _ (by decide +kernel)) ggX12_map_X12_times
set_option maxRecDepth 20000 in
theorem ggX12_map_X12_add : GoodIn wsX12_map wsX12_add := goodIn_r _ [59, 45, 103, 104, 105, 106, 107, 108, 109, 110, 111, 112, 113, 114, 115, 116, 117, 118, 119, 120, 121, 122, 123, 124, 125, 126, 127, 128, 129, 130, 131] (by decide +kernel) (by decide +kernel)
set_option maxRecDepth 20000 in
theorem gX12_map_X12_add : GoodIn wsX12_map (wsV RX12 122 RX12 yX12_add wsX12_add) := goodIn_app (goodIn_of _ (by decide +kernel)) ggX12_map_X12_add
set_option maxRecDepth 20000 in
theorem ggX12_map_X12_less : GoodIn wsX12_map wsX12_less := goodIn_r _ [63, 45, 52, 53, 54, 12, 55, 50, 51, 39, 56, 57, 58, 59, 103, 104, 105, 106, 107, 108, 109, 110, 111, 112, 113, 114, 115, 116, 117, 118, 119, 120, 121, 122, 123, 124, 125, 126, 127, 128, 129, 130, 131] (by decide +kernel) (by decide +kernel)
set_option maxRecDepth 20000 in
theorem gX12_map_X12_less : GoodIn wsX12_map (wsV RX12 165 RX12 yX12_less wsX12_less) := goodIn_app (goodIn_of _ (by decide +kernel)) ggX12_map_X12_less
set_option maxRecDepth 20000 in
theorem ggX12_map_X12_inverse : GoodIn wsX12_map wsX12_inverse := goodIn_r _ [67, 50, 39, 51, 103, 104, 105, 106, 107, 108, 109, 110, 111, 112, 113, 114, 115, 116, 117, 118, 119, 120, 121, 122, 123, 124, 125, 126, 127, 128, 129, 130, 131] (by decide +kernel) (by decide +kernel)
set_option maxRecDepth 20000 in
theorem gX12_map_X12_inverse : GoodIn wsX12_map (wsV RX12 143 RX12 yX12_inverse wsX12_inverse) := goodIn_app (goodIn_of _ (by decide +kernel)) ggX12_map_X12_inverse
set_option maxRecDepth 20000 in
theorem ggX12_map_X12_lay : GoodIn wsX12_map wsX12_lay := goodIn_r _ [71, 3, 4, 7, 8, 72, 73, 74, 12, 75, 76, 77, 78, 79, 5, 80, 81, 82, 83, 84, 85, 86, 87, 88, 45, 46, 47, 48, 49, 50, 51, 39, 40, 41, 42, 43, 44, 52, 53, 54, 55, 60, 61, 62, 63, 56, 57, 58, 59, 89, 90, 91, 92, 93, 94, 95, 96, 97, 98, 99, 100, 101, 102, 103, 104, 105, 106, 107, 108, 109, 110, 111, 112, 113, 114, 115, 116, 117, 118, 119, 120, 121, 122, 123, 124, 125, 126, 127, 128, 129, 130, 131] (by decide +kernel) (by decide +kernel)
set_option maxRecDepth 20000 in
theorem gX12_map_X12_lay : GoodIn wsX12_map (wsV RX12 184 RX12 yX12_lay wsX12_lay) := goodIn_app (goodIn_of _ (by decide +kernel)) ggX12_map_X12_lay
theorem dX12_map_0 : decode cX12_map 0 = .ok (.aload_n 0, 1) := by decide +kernel
theorem dX12_map_1 : decode cX12_map 1 = .ok (.iconst 0, 1) := by decide +kernel
theorem dX12_map_2 : decode cX12_map 2 = .ok (.putfield 1, 3) := by decide +kernel
theorem dX12_map_5 : decode cX12_map 5 = .ok (.iload_n 1, 1) := by decide +kernel
theorem dX12_map_6 : decode cX12_map 6 = .ok (.invokestatic 181, 3) := by decide +kernel
theorem dX12_map_9 : decode cX12_map 9 = .ok (.ifCond .ne 6, 3) := by decide +kernel
theorem dX12_map_12 : decode cX12_map 12 = .ok (.ldc 141, 2) := by decide +kernel
theorem dX12_map_14 : decode cX12_map 14 = .ok (.ireturn, 1) := by decide +kernel
theorem dX12_map_15 : decode cX12_map 15 = .ok (.aload_n 0, 1) := by decide +kernel
theorem dX12_map_16 : decode cX12_map 16 = .ok (.iload_n 2, 1) := by decide +kernel
theorem dX12_map_17 : decode cX12_map 17 = .ok (.iload_n 3, 1) := by decide +kernel
theorem dX12_map_18 : decode cX12_map 18 = .ok (.iload 4, 2) := by decide +kernel
theorem dX12_map_20 : decode cX12_map 20 = .ok (.iload 5, 2) := by decide +kernel
theorem dX12_map_22 : decode cX12_map 22 = .ok (.invokevirtual 193, 3) := by decide +kernel
theorem dX12_map_25 : decode cX12_map 25 = .ok (.istore 6, 2) := by decide +kernel
theorem dX12_map_27 : decode cX12_map 27 = .ok (.iload 6, 2) := by decide +kernel
theorem dX12_map_29 : decode cX12_map 29 = .ok (.ifCond .ge 6, 3) := by decide +kernel
theorem dX12_map_32 : decode cX12_map 32 = .ok (.iload 6, 2) := by decide +kernel
theorem dX12_map_34 : decode cX12_map 34 = .ok (.ireturn, 1) := by decide +kernel
theorem dX12_map_35 : decode cX12_map 35 = .ok (.aload_n 0, 1) := by decide +kernel
theorem dX12_map_36 : decode cX12_map 36 = .ok (.iconst 0, 1) := by decide +kernel
theorem dX12_map_37 : decode cX12_map 37 = .ok (.putfield 7, 3) := by decide +kernel
theorem dX12_map_40 : decode cX12_map 40 = .ok (.aload_n 0, 1) := by decide +kernel
theorem dX12_map_41 : decode cX12_map 41 = .ok (.getfield 70, 3) := by decide +kernel
theorem dX12_map_44 : decode cX12_map 44 = .ok (.iload_n 2, 1) := by decide +kernel
theorem dX12_map_45 : decode cX12_map 45 = .ok (.iaload, 1) := by decide +kernel
theorem dX12_map_46 : decode cX12_map 46 = .ok (.istore 7, 2) := by decide +kernel
theorem dX12_map_48 : decode cX12_map 48 = .ok (.iconst 0, 1) := by decide +kernel
theorem dX12_map_49 : decode cX12_map 49 = .ok (.istore 8, 2) := by decide +kernel
theorem dX12_map_51 : decode cX12_map 51 = .ok (.iload 8, 2) := by decide +kernel
theorem dX12_map_53 : decode cX12_map 53 = .ok (.bipush 24, 2) := by decide +kernel
theorem dX12_map_55 : decode cX12_map 55 = .ok (.if_icmp .ge 17, 3) := by decide +kernel
theorem dX12_map_58 : decode cX12_map 58 = .ok (.aload_n 0, 1) := by decide +kernel
theorem dX12_map_59 : decode cX12_map 59 = .ok (.getfield 76, 3) := by decide +kernel
theorem dX12_map_62 : decode cX12_map 62 = .ok (.iload 8, 2) := by decide +kernel
theorem dX12_map_64 : decode cX12_map 64 = .ok (.iconst 0, 1) := by decide +kernel
theorem dX12_map_65 : decode cX12_map 65 = .ok (.iastore, 1) := by decide +kernel
theorem dX12_map_66 : decode cX12_map 66 = .ok (.iinc 8 1, 3) := by decide +kernel
theorem dX12_map_69 : decode cX12_map 69 = .ok (.goto (-18), 3) := by decide +kernel
theorem dX12_map_72 : decode cX12_map 72 = .ok (.iconst 0, 1) := by decide +kernel
theorem dX12_map_73 : decode cX12_map 73 = .ok (.istore 8, 2) := by decide +kernel
theorem dX12_map_75 : decode cX12_map 75 = .ok (.iload 8, 2) := by decide +kernel
theorem dX12_map_77 : decode cX12_map 77 = .ok (.iload 5, 2) := by decide +kernel
theorem dX12_map_79 : decode cX12_map 79 = .ok (.if_icmp .gt 77, 3) := by decide +kernel
theorem dX12_map_82 : decode cX12_map 82 = .ok (.iconst 0, 1) := by decide +kernel
theorem dX12_map_83 : decode cX12_map 83 = .ok (.istore 9, 2) := by decide +kernel
theorem dX12_map_85 : decode cX12_map 85 = .ok (.iload 9, 2) := by decide +kernel
theorem dX12_map_87 : decode cX12_map 87 = .ok (.iload 7, 2) := by decide +kernel
theorem dX12_map_89 : decode cX12_map 89 = .ok (.if_icmp .gt 61, 3) := by decide +kernel
theorem dX12_map_92 : decode cX12_map 92 = .ok (.aload_n 0, 1) := by decide +kernel
theorem dX12_map_93 : decode cX12_map 93 = .ok (.getfield 76, 3) := by decide +kernel
theorem dX12_map_96 : decode cX12_map 96 = .ok (.iload 8, 2) := by decide +kernel
theorem dX12_map_98 : decode cX12_map 98 = .ok (.iload 9, 2) := by decide +kernel
theorem dX12_map_100 : decode cX12_map 100 = .ok (.iadd, 1) := by decide +kernel
theorem dX12_map_101 : decode cX12_map 101 = .ok (.aload_n 0, 1) := by decide +kernel
theorem dX12_map_102 : decode cX12_map 102 = .ok (.aload_n 0, 1) := by decide +kernel
theorem dX12_map_103 : decode cX12_map 103 = .ok (.getfield 76, 3) := by decide +kernel
theorem dX12_map_106 : decode cX12_map 106 = .ok (.iload 8, 2) := by decide +kernel
theorem dX12_map_108 : decode cX12_map 108 = .ok (.iload 9, 2) := by decide +kernel
theorem dX12_map_110 : decode cX12_map 110 = .ok (.iadd, 1) := by decide +kernel
theorem dX12_map_111 : decode cX12_map 111 = .ok (.iaload, 1) := by decide +kernel
theorem dX12_map_112 : decode cX12_map 112 = .ok (.aload_n 0, 1) := by decide +kernel
theorem dX12_map_113 : decode cX12_map 113 = .ok (.aload_n 0, 1) := by decide +kernel
theorem dX12_map_114 : decode cX12_map 114 = .ok (.getfield 91, 3) := by decide +kernel
theorem dX12_map_117 : decode cX12_map 117 = .ok (.iload 8, 2) := by decide +kernel
theorem dX12_map_119 : decode cX12_map 119 = .ok (.iaload, 1) := by decide +kernel
theorem dX12_map_120 : decode cX12_map 120 = .ok (.aload_n 0, 1) := by decide +kernel
theorem dX12_map_121 : decode cX12_map 121 = .ok (.aload_n 0, 1) := by decide +kernel
theorem dX12_map_122 : decode cX12_map 122 = .ok (.getfield 73, 3) := by decide +kernel
theorem dX12_map_125 : decode cX12_map 125 = .ok (.iconst 4, 1) := by decide +kernel
theorem dX12_map_126 : decode cX12_map 126 = .ok (.iload_n 2, 1) := by decide +kernel
theorem dX12_map_127 : decode cX12_map 127 = .ok (.imul, 1) := by decide +kernel
theorem dX12_map_128 : decode cX12_map 128 = .ok (.iload 9, 2) := by decide +kernel
theorem dX12_map_130 : decode cX12_map 130 = .ok (.iadd, 1) := by decide +kernel
theorem dX12_map_131 : decode cX12_map 131 = .ok (.iaload, 1) := by decide +kernel
theorem dX12_map_132 : decode cX12_map 132 = .ok (.iload 8, 2) := by decide +kernel
theorem dX12_map_134 : decode cX12_map 134 = .ok (.invokevirtual 159, 3) := by decide +kernel
theorem dX12_map_137 : decode cX12_map 137 = .ok (.invokevirtual 119, 3) := by decide +kernel
theorem dX12_map_140 : decode cX12_map 140 = .ok (.invokevirtual 122, 3) := by decide +kernel
theorem dX12_map_143 : decode cX12_map 143 = .ok (.iastore, 1) := by decide +kernel
theorem dX12_map_144 : decode cX12_map 144 = .ok (.iinc 9 1, 3) := by decide +kernel
theorem dX12_map_147 : decode cX12_map 147 = .ok (.goto (-62), 3) := by decide +kernel
theorem dX12_map_150 : decode cX12_map 150 = .ok (.iinc 8 1, 3) := by decide +kernel
theorem dX12_map_153 : decode cX12_map 153 = .ok (.goto (-78), 3) := by decide +kernel
theorem dX12_map_156 : decode cX12_map 156 = .ok (.iconst 0, 1) := by decide +kernel
theorem dX12_map_157 : decode cX12_map 157 = .ok (.istore 8, 2) := by decide +kernel
theorem dX12_map_159 : decode cX12_map 159 = .ok (.iload 8, 2) := by decide +kernel
theorem dX12_map_161 : decode cX12_map 161 = .ok (.iload 7, 2) := by decide +kernel
theorem dX12_map_163 : decode cX12_map 163 = .ok (.iload 5, 2) := by decide +kernel
theorem dX12_map_165 : decode cX12_map 165 = .ok (.iadd, 1) := by decide +kernel
theorem dX12_map_166 : decode cX12_map 166 = .ok (.if_icmp .gt 137, 3) := by decide +kernel
theorem dX12_map_169 : decode cX12_map 169 = .ok (.aload_n 0, 1) := by decide +kernel
theorem dX12_map_170 : decode cX12_map 170 = .ok (.getfield 76, 3) := by decide +kernel
theorem dX12_map_173 : decode cX12_map 173 = .ok (.iload 8, 2) := by decide +kernel
theorem dX12_map_175 : decode cX12_map 175 = .ok (.iaload, 1) := by decide +kernel
theorem dX12_map_176 : decode cX12_map 176 = .ok (.istore 9, 2) := by decide +kernel
theorem dX12_map_178 : decode cX12_map 178 = .ok (.iconst 0, 1) := by decide +kernel
theorem dX12_map_179 : decode cX12_map 179 = .ok (.istore 10, 2) := by decide +kernel
theorem dX12_map_181 : decode cX12_map 181 = .ok (.iload 10, 2) := by decide +kernel
theorem dX12_map_183 : decode cX12_map 183 = .ok (.iload 8, 2) := by decide +kernel
theorem dX12_map_185 : decode cX12_map 185 = .ok (.if_icmp .ge 65, 3) := by decide +kernel
theorem dX12_map_188 : decode cX12_map 188 = .ok (.iload 10, 2) := by decide +kernel
theorem dX12_map_190 : decode cX12_map 190 = .ok (.iload 7, 2) := by decide +kernel
theorem dX12_map_192 : decode cX12_map 192 = .ok (.if_icmp .gt 58, 3) := by decide +kernel
theorem dX12_map_195 : decode cX12_map 195 = .ok (.aload_n 0, 1) := by decide +kernel
theorem dX12_map_196 : decode cX12_map 196 = .ok (.iload 9, 2) := by decide +kernel
theorem dX12_map_198 : decode cX12_map 198 = .ok (.iload 8, 2) := by decide +kernel
theorem dX12_map_200 : decode cX12_map 200 = .ok (.iload 10, 2) := by decide +kernel
theorem dX12_map_202 : decode cX12_map 202 = .ok (.isub, 1) := by decide +kernel
theorem dX12_map_203 : decode cX12_map 203 = .ok (.iload 5, 2) := by decide +kernel
theorem dX12_map_205 : decode cX12_map 205 = .ok (.if_icmp .le 7, 3) := by decide +kernel
theorem dX12_map_208 : decode cX12_map 208 = .ok (.iconst 0, 1) := by decide +kernel
theorem dX12_map_209 : decode cX12_map 209 = .ok (.goto 30, 3) := by decide +kernel
theorem dX12_map_212 : decode cX12_map 212 = .ok (.aload_n 0, 1) := by decide +kernel
theorem dX12_map_213 : decode cX12_map 213 = .ok (.aload_n 0, 1) := by decide +kernel
theorem dX12_map_214 : decode cX12_map 214 = .ok (.getfield 88, 3) := by decide +kernel
theorem dX12_map_217 : decode cX12_map 217 = .ok (.iload 10, 2) := by decide +kernel
theorem dX12_map_219 : decode cX12_map 219 = .ok (.iaload, 1) := by decide +kernel
theorem dX12_map_220 : decode cX12_map 220 = .ok (.aload_n 0, 1) := by decide +kernel
theorem dX12_map_221 : decode cX12_map 221 = .ok (.aload_n 0, 1) := by decide +kernel
theorem dX12_map_222 : decode cX12_map 222 = .ok (.getfield 91, 3) := by decide +kernel
theorem dX12_map_225 : decode cX12_map 225 = .ok (.iload 8, 2) := by decide +kernel
theorem dX12_map_227 : decode cX12_map 227 = .ok (.iload 10, 2) := by decide +kernel
theorem dX12_map_229 : decode cX12_map 229 = .ok (.isub, 1) := by decide +kernel
theorem dX12_map_230 : decode cX12_map 230 = .ok (.iaload, 1) := by decide +kernel
theorem dX12_map_231 : decode cX12_map 231 = .ok (.iload 10, 2) := by decide +kernel
theorem dX12_map_233 : decode cX12_map 233 = .ok (.invokevirtual 159, 3) := by decide +kernel
theorem dX12_map_236 : decode cX12_map 236 = .ok (.invokevirtual 119, 3) := by decide +kernel
theorem dX12_map_239 : decode cX12_map 239 = .ok (.invokevirtual 165, 3) := by decide +kernel
theorem dX12_map_242 : decode cX12_map 242 = .ok (.istore 9, 2) := by decide +kernel
theorem dX12_map_244 : decode cX12_map 244 = .ok (.iinc 10 1, 3) := by decide +kernel
theorem dX12_map_247 : decode cX12_map 247 = .ok (.goto (-66), 3) := by decide +kernel
theorem dX12_map_250 : decode cX12_map 250 = .ok (.iload 8, 2) := by decide +kernel
theorem dX12_map_252 : decode cX12_map 252 = .ok (.iload 7, 2) := by decide +kernel
theorem dX12_map_254 : decode cX12_map 254 = .ok (.if_icmp .gt 35, 3) := by decide +kernel
theorem dX12_map_257 : decode cX12_map 257 = .ok (.aload_n 0, 1) := by decide +kernel
theorem dX12_map_258 : decode cX12_map 258 = .ok (.getfield 88, 3) := by decide +kernel
theorem dX12_map_261 : decode cX12_map 261 = .ok (.iload 8, 2) := by decide +kernel
theorem dX12_map_263 : decode cX12_map 263 = .ok (.aload_n 0, 1) := by decide +kernel
theorem dX12_map_264 : decode cX12_map 264 = .ok (.iload 9, 2) := by decide +kernel
theorem dX12_map_266 : decode cX12_map 266 = .ok (.aload_n 0, 1) := by decide +kernel
theorem dX12_map_267 : decode cX12_map 267 = .ok (.aload_n 0, 1) := by decide +kernel
theorem dX12_map_268 : decode cX12_map 268 = .ok (.aload_n 0, 1) := by decide +kernel
theorem dX12_map_269 : decode cX12_map 269 = .ok (.getfield 91, 3) := by decide +kernel
theorem dX12_map_272 : decode cX12_map 272 = .ok (.iconst 0, 1) := by decide +kernel
theorem dX12_map_273 : decode cX12_map 273 = .ok (.iaload, 1) := by decide +kernel
theorem dX12_map_274 : decode cX12_map 274 = .ok (.iload 8, 2) := by decide +kernel
theorem dX12_map_276 : decode cX12_map 276 = .ok (.invokevirtual 159, 3) := by decide +kernel
theorem dX12_map_279 : decode cX12_map 279 = .ok (.invokevirtual 143, 3) := by decide +kernel
theorem dX12_map_282 : decode cX12_map 282 = .ok (.invokevirtual 119, 3) := by decide +kernel
theorem dX12_map_285 : decode cX12_map 285 = .ok (.iastore, 1) := by decide +kernel
theorem dX12_map_286 : decode cX12_map 286 = .ok (.goto 11, 3) := by decide +kernel
theorem dX12_map_289 : decode cX12_map 289 = .ok (.iload 9, 2) := by decide +kernel
theorem dX12_map_291 : decode cX12_map 291 = .ok (.ifCond .eq 6, 3) := by decide +kernel
theorem dX12_map_294 : decode cX12_map 294 = .ok (.ldc 142, 2) := by decide +kernel
theorem dX12_map_296 : decode cX12_map 296 = .ok (.ireturn, 1) := by decide +kernel
theorem dX12_map_297 : decode cX12_map 297 = .ok (.iinc 8 1, 3) := by decide +kernel
theorem dX12_map_300 : decode cX12_map 300 = .ok (.goto (-141), 3) := by decide +kernel
theorem dX12_map_303 : decode cX12_map 303 = .ok (.aload_n 0, 1) := by decide +kernel
theorem dX12_map_304 : decode cX12_map 304 = .ok (.iload_n 1, 1) := by decide +kernel
theorem dX12_map_305 : decode cX12_map 305 = .ok (.iload 7, 2) := by decide +kernel
theorem dX12_map_307 : decode cX12_map 307 = .ok (.invokevirtual 184, 3) := by decide +kernel
theorem dX12_map_310 : decode cX12_map 310 = .ok (.ireturn, 1) := by decide +kernel
set_option maxRecDepth 20000 in
theorem ggX12_clear_X12_isPlace : GoodIn wsX12_clear wsX12_isPlace := goodIn_r _ [7, 8, 9, 10, 6, 11] (by decide +kernel) (by decide +kernel)
set_option maxRecDepth 20000 in
theorem gX12_clear_X12_isPlace : GoodIn wsX12_clear (va_wsS RX12 181 yX12_isPlace wsX12_isPlace) := goodIn_app (goodIn_of _ (by decide +kernel)) ggX12_clear_X12_isPlace
theorem dX12_clear_0 : decode cX12_clear 0 = .ok (.aload_n 0, 1) := by decide +kernel
theorem dX12_clear_1 : decode cX12_clear 1 = .ok (.iconst 0, 1) := by decide +kernel
theorem dX12_clear_2 : decode cX12_clear 2 = .ok (.putfield 1, 3) := by decide +kernel
theorem dX12_clear_5 : decode cX12_clear 5 = .ok (.iload_n 1, 1) := by decide +kernel
theorem dX12_clear_6 : decode cX12_clear 6 = .ok (.invokestatic 181, 3) := by decide +kernel
theorem dX12_clear_9 : decode cX12_clear 9 = .ok (.ifCond .ne 6, 3) := by decide +kernel
theorem dX12_clear_12 : decode cX12_clear 12 = .ok (.ldc 141, 2) := by decide +kernel
theorem dX12_clear_14 : decode cX12_clear 14 = .ok (.ireturn, 1) := by decide +kernel
theorem dX12_clear_15 : decode cX12_clear 15 = .ok (.aload_n 0, 1) := by decide +kernel
theorem dX12_clear_16 : decode cX12_clear 16 = .ok (.getfield 70, 3) := by decide +kernel
theorem dX12_clear_19 : decode cX12_clear 19 = .ok (.iload_n 1, 1) := by decide +kernel
theorem dX12_clear_20 : decode cX12_clear 20 = .ok (.iaload, 1) := by decide +kernel
theorem dX12_clear_21 : decode cX12_clear 21 = .ok (.ifCond .le 7, 3) := by decide +kernel
theorem dX12_clear_24 : decode cX12_clear 24 = .ok (.iconst 1, 1) := by decide +kernel
theorem dX12_clear_25 : decode cX12_clear 25 = .ok (.goto 4, 3) := by decide +kernel
theorem dX12_clear_28 : decode cX12_clear 28 = .ok (.iconst 0, 1) := by decide +kernel
theorem dX12_clear_29 : decode cX12_clear 29 = .ok (.istore_n 2, 1) := by decide +kernel
theorem dX12_clear_30 : decode cX12_clear 30 = .ok (.aload_n 0, 1) := by decide +kernel
theorem dX12_clear_31 : decode cX12_clear 31 = .ok (.getfield 70, 3) := by decide +kernel
theorem dX12_clear_34 : decode cX12_clear 34 = .ok (.iload_n 1, 1) := by decide +kernel
theorem dX12_clear_35 : decode cX12_clear 35 = .ok (.iconst 0, 1) := by decide +kernel
theorem dX12_clear_36 : decode cX12_clear 36 = .ok (.iastore, 1) := by decide +kernel
theorem dX12_clear_37 : decode cX12_clear 37 = .ok (.iload_n 2, 1) := by decide +kernel
theorem dX12_clear_38 : decode cX12_clear 38 = .ok (.ifCond .eq 7, 3) := by decide +kernel
theorem dX12_clear_41 : decode cX12_clear 41 = .ok (.iconst 1, 1) := by decide +kernel
theorem dX12_clear_42 : decode cX12_clear 42 = .ok (.goto 4, 3) := by decide +kernel
theorem dX12_clear_45 : decode cX12_clear 45 = .ok (.iconst 0, 1) := by decide +kernel
theorem dX12_clear_46 : decode cX12_clear 46 = .ok (.ireturn, 1) := by decide +kernel
set_option maxRecDepth 20000 in
theorem ggX12_look_X12_found : GoodIn wsX12_look wsX12_found := goodIn_r _ [7, 1, 8, 9, 10, 11, 12, 13, 14, 15, 16, 17, 18, 19, 20, 21, 22, 23, 24, 25, 26, 27, 28, 29, 30, 31, 32, 33, 34, 35, 36, 37] (by decide +kernel) (by decide +kernel)
set_option maxRecDepth 20000 in
theorem gX12_look_X12_found : GoodIn wsX12_look (wsV RX12 154 RX12 yX12_found wsX12_found) := goodIn_app (goodIn_of _ (by decide +kernel)) ggX12_look_X12_found
theorem dX12_look_0 : decode cX12_look 0 = .ok (.aload_n 0, 1) := by decide +kernel
theorem dX12_look_1 : decode cX12_look 1 = .ok (.iconst 0, 1) := by decide +kernel
theorem dX12_look_2 : decode cX12_look 2 = .ok (.putfield 7, 3) := by decide +kernel
theorem dX12_look_5 : decode cX12_look 5 = .ok (.aload_n 0, 1) := by decide +kernel
theorem dX12_look_6 : decode cX12_look 6 = .ok (.getfield 70, 3) := by decide +kernel
theorem dX12_look_9 : decode cX12_look 9 = .ok (.iload_n 1, 1) := by decide +kernel
theorem dX12_look_10 : decode cX12_look 10 = .ok (.iaload, 1) := by decide +kernel
theorem dX12_look_11 : decode cX12_look 11 = .ok (.ifCond .ne 11, 3) := by decide +kernel
theorem dX12_look_14 : decode cX12_look 14 = .ok (.aload_n 0, 1) := by decide +kernel
theorem dX12_look_15 : decode cX12_look 15 = .ok (.iconst 1, 1) := by decide +kernel
theorem dX12_look_16 : decode cX12_look 16 = .ok (.invokevirtual 154, 3) := by decide +kernel
theorem dX12_look_19 : decode cX12_look 19 = .ok (.goto 4, 3) := by decide +kernel
theorem dX12_look_22 : decode cX12_look 22 = .ok (.iconst 0, 1) := by decide +kernel
theorem dX12_look_23 : decode cX12_look 23 = .ok (.ireturn, 1) := by decide +kernel
set_option maxRecDepth 20000 in
theorem ggX12_markOf_X12_raise : GoodIn wsX12_markOf wsX12_raise := goodIn_r _ [7, 8, 9, 10, 19, 20, 21, 22, 23, 24, 25, 26, 27, 28, 29, 30, 31, 32, 33, 34, 35, 36, 37, 38, 39, 40, 41, 42, 43, 44, 45, 46, 47] (by decide +kernel) (by decide +kernel)
set_option maxRecDepth 20000 in
theorem gX12_markOf_X12_raise : GoodIn wsX12_markOf (wsV RX12 125 RX12 yX12_raise wsX12_raise) := goodIn_app (goodIn_of _ (by decide +kernel)) ggX12_markOf_X12_raise
set_option maxRecDepth 20000 in
theorem ggX12_markOf_X12_inverse : GoodIn wsX12_markOf wsX12_inverse := goodIn_r _ [14, 8, 10, 9, 19, 20, 21, 22, 23, 24, 25, 26, 27, 28, 29, 30, 31, 32, 33, 34, 35, 36, 37, 38, 39, 40, 41, 42, 43, 44, 45, 46, 47] (by decide +kernel) (by decide +kernel)
set_option maxRecDepth 20000 in
theorem gX12_markOf_X12_inverse : GoodIn wsX12_markOf (wsV RX12 143 RX12 yX12_inverse wsX12_inverse) := goodIn_app (goodIn_of _ (by decide +kernel)) ggX12_markOf_X12_inverse
set_option maxRecDepth 20000 in
theorem ggX12_markOf_X12_times : GoodIn wsX12_markOf wsX12_times := goodIn_r _ [18, 8, 9, 10, 19, 20, 21, 22, 23, 24, 25, 26, 27, 28, 29, 30, 31, 32, 33, 34, 35, 36, 37, 38, 39, 40, 41, 42, 43, 44, 45, 46, 47] (by decide +kernel) (by decide +kernel)
set_option maxRecDepth 20000 in
theorem gX12_markOf_X12_times : GoodIn wsX12_markOf (wsV RX12 119 RX12 yX12_times wsX12_times) := goodIn_app (goodIn_of _ (by decide +kernel)) ggX12_markOf_X12_times
theorem dX12_markOf_0 : decode cX12_markOf 0 = .ok (.aload_n 0, 1) := by decide +kernel
theorem dX12_markOf_1 : decode cX12_markOf 1 = .ok (.aload_n 0, 1) := by decide +kernel
theorem dX12_markOf_2 : decode cX12_markOf 2 = .ok (.aload_n 0, 1) := by decide +kernel
theorem dX12_markOf_3 : decode cX12_markOf 3 = .ok (.getfield 73, 3) := by decide +kernel
theorem dX12_markOf_6 : decode cX12_markOf 6 = .ok (.iconst 4, 1) := by decide +kernel
theorem dX12_markOf_7 : decode cX12_markOf 7 = .ok (.iload_n 1, 1) := by decide +kernel
theorem dX12_markOf_8 : decode cX12_markOf 8 = .ok (.imul, 1) := by decide +kernel
theorem dX12_markOf_9 : decode cX12_markOf 9 = .ok (.iconst 1, 1) := by decide +kernel
theorem dX12_markOf_10 : decode cX12_markOf 10 = .ok (.iadd, 1) := by decide +kernel
theorem dX12_markOf_11 : decode cX12_markOf 11 = .ok (.iaload, 1) := by decide +kernel
theorem dX12_markOf_12 : decode cX12_markOf 12 = .ok (.aload_n 0, 1) := by decide +kernel
theorem dX12_markOf_13 : decode cX12_markOf 13 = .ok (.getfield 11, 3) := by decide +kernel
theorem dX12_markOf_16 : decode cX12_markOf 16 = .ok (.iconst 1, 1) := by decide +kernel
theorem dX12_markOf_17 : decode cX12_markOf 17 = .ok (.iadd, 1) := by decide +kernel
theorem dX12_markOf_18 : decode cX12_markOf 18 = .ok (.i2l, 1) := by decide +kernel
theorem dX12_markOf_19 : decode cX12_markOf 19 = .ok (.invokevirtual 125, 3) := by decide +kernel
theorem dX12_markOf_22 : decode cX12_markOf 22 = .ok (.aload_n 0, 1) := by decide +kernel
theorem dX12_markOf_23 : decode cX12_markOf 23 = .ok (.aload_n 0, 1) := by decide +kernel
theorem dX12_markOf_24 : decode cX12_markOf 24 = .ok (.getfield 73, 3) := by decide +kernel
theorem dX12_markOf_27 : decode cX12_markOf 27 = .ok (.iconst 4, 1) := by decide +kernel
theorem dX12_markOf_28 : decode cX12_markOf 28 = .ok (.iload_n 1, 1) := by decide +kernel
theorem dX12_markOf_29 : decode cX12_markOf 29 = .ok (.imul, 1) := by decide +kernel
theorem dX12_markOf_30 : decode cX12_markOf 30 = .ok (.iconst 2, 1) := by decide +kernel
theorem dX12_markOf_31 : decode cX12_markOf 31 = .ok (.iadd, 1) := by decide +kernel
theorem dX12_markOf_32 : decode cX12_markOf 32 = .ok (.iaload, 1) := by decide +kernel
theorem dX12_markOf_33 : decode cX12_markOf 33 = .ok (.invokevirtual 143, 3) := by decide +kernel
theorem dX12_markOf_36 : decode cX12_markOf 36 = .ok (.invokevirtual 119, 3) := by decide +kernel
theorem dX12_markOf_39 : decode cX12_markOf 39 = .ok (.ireturn, 1) := by decide +kernel
set_option maxRecDepth 20000 in
theorem ggX12_goOn_X12_step : GoodIn wsX12_goOn wsX12_step := goodIn_r _ [6, 7, 8, 9, 10, 11, 12, 5, 13, 14, 15, 16, 17, 18, 19, 20, 21, 22, 23, 24, 25, 26, 27, 28, 29, 30, 31, 32, 33, 34, 35, 36, 37, 38, 39, 40, 41, 42, 43, 44, 45, 46, 47, 48, 49, 50, 51, 52, 53] (by decide +kernel) (by decide +kernel)
set_option maxRecDepth 20000 in
theorem gX12_goOn_X12_step : GoodIn wsX12_goOn (wsV RX12 197 RX12 yX12_step wsX12_step) := goodIn_app (goodIn_of _ (by decide +kernel)) ggX12_goOn_X12_step
theorem dX12_goOn_0 : decode cX12_goOn 0 = .ok (.aload_n 0, 1) := by decide +kernel
theorem dX12_goOn_1 : decode cX12_goOn 1 = .ok (.getfield 94, 3) := by decide +kernel
theorem dX12_goOn_4 : decode cX12_goOn 4 = .ok (.bipush 7, 2) := by decide +kernel
theorem dX12_goOn_6 : decode cX12_goOn 6 = .ok (.iload_n 2, 1) := by decide +kernel
theorem dX12_goOn_7 : decode cX12_goOn 7 = .ok (.imul, 1) := by decide +kernel
theorem dX12_goOn_8 : decode cX12_goOn 8 = .ok (.iload_n 3, 1) := by decide +kernel
theorem dX12_goOn_9 : decode cX12_goOn 9 = .ok (.iastore, 1) := by decide +kernel
theorem dX12_goOn_10 : decode cX12_goOn 10 = .ok (.iconst 1, 1) := by decide +kernel
theorem dX12_goOn_11 : decode cX12_goOn 11 = .ok (.istore 4, 2) := by decide +kernel
theorem dX12_goOn_13 : decode cX12_goOn 13 = .ok (.iload 4, 2) := by decide +kernel
theorem dX12_goOn_15 : decode cX12_goOn 15 = .ok (.bipush 7, 2) := by decide +kernel
theorem dX12_goOn_17 : decode cX12_goOn 17 = .ok (.if_icmp .ge 40, 3) := by decide +kernel
theorem dX12_goOn_20 : decode cX12_goOn 20 = .ok (.aload_n 0, 1) := by decide +kernel
theorem dX12_goOn_21 : decode cX12_goOn 21 = .ok (.getfield 94, 3) := by decide +kernel
theorem dX12_goOn_24 : decode cX12_goOn 24 = .ok (.bipush 7, 2) := by decide +kernel
theorem dX12_goOn_26 : decode cX12_goOn 26 = .ok (.iload_n 2, 1) := by decide +kernel
theorem dX12_goOn_27 : decode cX12_goOn 27 = .ok (.imul, 1) := by decide +kernel
theorem dX12_goOn_28 : decode cX12_goOn 28 = .ok (.iload 4, 2) := by decide +kernel
theorem dX12_goOn_30 : decode cX12_goOn 30 = .ok (.iadd, 1) := by decide +kernel
theorem dX12_goOn_31 : decode cX12_goOn 31 = .ok (.aload_n 0, 1) := by decide +kernel
theorem dX12_goOn_32 : decode cX12_goOn 32 = .ok (.iload_n 1, 1) := by decide +kernel
theorem dX12_goOn_33 : decode cX12_goOn 33 = .ok (.aload_n 0, 1) := by decide +kernel
theorem dX12_goOn_34 : decode cX12_goOn 34 = .ok (.getfield 94, 3) := by decide +kernel
theorem dX12_goOn_37 : decode cX12_goOn 37 = .ok (.bipush 7, 2) := by decide +kernel
theorem dX12_goOn_39 : decode cX12_goOn 39 = .ok (.iload_n 2, 1) := by decide +kernel
theorem dX12_goOn_40 : decode cX12_goOn 40 = .ok (.imul, 1) := by decide +kernel
theorem dX12_goOn_41 : decode cX12_goOn 41 = .ok (.iload 4, 2) := by decide +kernel
theorem dX12_goOn_43 : decode cX12_goOn 43 = .ok (.iadd, 1) := by decide +kernel
theorem dX12_goOn_44 : decode cX12_goOn 44 = .ok (.iconst 1, 1) := by decide +kernel
theorem dX12_goOn_45 : decode cX12_goOn 45 = .ok (.isub, 1) := by decide +kernel
theorem dX12_goOn_46 : decode cX12_goOn 46 = .ok (.iaload, 1) := by decide +kernel
theorem dX12_goOn_47 : decode cX12_goOn 47 = .ok (.invokevirtual 197, 3) := by decide +kernel
theorem dX12_goOn_50 : decode cX12_goOn 50 = .ok (.iastore, 1) := by decide +kernel
theorem dX12_goOn_51 : decode cX12_goOn 51 = .ok (.iinc 4 1, 3) := by decide +kernel
theorem dX12_goOn_54 : decode cX12_goOn 54 = .ok (.goto (-41), 3) := by decide +kernel
theorem dX12_goOn_57 : decode cX12_goOn 57 = .ok (.return_, 1) := by decide +kernel
set_option maxRecDepth 20000 in
theorem ggX12_leastOf_X12_power : GoodIn wsX12_leastOf wsX12_power := goodIn_r _ [9] (by decide +kernel) (by decide +kernel)
set_option maxRecDepth 20000 in
theorem gX12_leastOf_X12_power : GoodIn wsX12_leastOf (va_wsS RX12 14 yX12_power wsX12_power) := goodIn_app (goodIn_of _ (by decide +kernel)) ggX12_leastOf_X12_power
set_option maxRecDepth 20000 in
theorem ggX12_leastOf_X12_figures : GoodIn wsX12_leastOf wsX12_figures := goodIn_r _ [13, 2, 25, 26, 27, 28, 29, 30, 31, 32, 33, 34, 35, 36, 37, 38, 39, 40, 41, 42, 43, 44, 45, 46, 47, 48, 49, 50, 51, 52, 53] (by decide +kernel) (by decide +kernel)
set_option maxRecDepth 20000 in
theorem gX12_leastOf_X12_figures : GoodIn wsX12_leastOf (wsV RX12 22 RX12 yX12_figures wsX12_figures) := goodIn_app (goodIn_of _ (by decide +kernel)) ggX12_leastOf_X12_figures
set_option maxRecDepth 20000 in
theorem ggX12_leastOf_X12_times : GoodIn wsX12_leastOf wsX12_times := goodIn_r _ [17, 18, 19, 20, 25, 26, 27, 28, 29, 30, 31, 32, 33, 34, 35, 36, 37, 38, 39, 40, 41, 42, 43, 44, 45, 46, 47, 48, 49, 50, 51, 52, 53] (by decide +kernel) (by decide +kernel)
set_option maxRecDepth 20000 in
theorem gX12_leastOf_X12_times : GoodIn wsX12_leastOf (wsV RX12 119 RX12 yX12_times wsX12_times) := goodIn_app (goodIn_of _ (by decide +kernel)) ggX12_leastOf_X12_times
set_option maxRecDepth 20000 in
theorem ggX12_leastOf_X12_add : GoodIn wsX12_leastOf wsX12_add := goodIn_r _ [24, 2, 25, 26, 27, 28, 29, 30, 31, 32, 33, 34, 35, 36, 37, 38, 39, 40, 41, 42, 43, 44, 45, 46, 47, 48, 49, 50, 51, 52, 53] (by decide +kernel) (by decide +kernel)
set_option maxRecDepth 20000 in
theorem gX12_leastOf_X12_add : GoodIn wsX12_leastOf (wsV RX12 122 RX12 yX12_add wsX12_add) := goodIn_app (goodIn_of _ (by decide +kernel)) ggX12_leastOf_X12_add
theorem dX12_leastOf_0 : decode cX12_leastOf 0 = .ok (.iconst 0, 1) := by decide +kernel
theorem dX12_leastOf_1 : decode cX12_leastOf 1 = .ok (.istore_n 2, 1) := by decide +kernel
theorem dX12_leastOf_2 : decode cX12_leastOf 2 = .ok (.iload_n 2, 1) := by decide +kernel
theorem dX12_leastOf_3 : decode cX12_leastOf 3 = .ok (.aload_n 0, 1) := by decide +kernel
theorem dX12_leastOf_4 : decode cX12_leastOf 4 = .ok (.getfield 42, 3) := by decide +kernel
theorem dX12_leastOf_7 : decode cX12_leastOf 7 = .ok (.if_icmp .gt 151, 3) := by decide +kernel
theorem dX12_leastOf_10 : decode cX12_leastOf 10 = .ok (.aload_n 0, 1) := by decide +kernel
theorem dX12_leastOf_11 : decode cX12_leastOf 11 = .ok (.getfield 11, 3) := by decide +kernel
theorem dX12_leastOf_14 : decode cX12_leastOf 14 = .ok (.iload_n 2, 1) := by decide +kernel
theorem dX12_leastOf_15 : decode cX12_leastOf 15 = .ok (.invokestatic 14, 3) := by decide +kernel
theorem dX12_leastOf_18 : decode cX12_leastOf 18 = .ok (.istore_n 3, 1) := by decide +kernel
theorem dX12_leastOf_19 : decode cX12_leastOf 19 = .ok (.iconst 0, 1) := by decide +kernel
theorem dX12_leastOf_20 : decode cX12_leastOf 20 = .ok (.istore 4, 2) := by decide +kernel
theorem dX12_leastOf_22 : decode cX12_leastOf 22 = .ok (.iload 4, 2) := by decide +kernel
theorem dX12_leastOf_24 : decode cX12_leastOf 24 = .ok (.iload_n 3, 1) := by decide +kernel
theorem dX12_leastOf_25 : decode cX12_leastOf 25 = .ok (.if_icmp .ge 127, 3) := by decide +kernel
theorem dX12_leastOf_28 : decode cX12_leastOf 28 = .ok (.aload_n 0, 1) := by decide +kernel
theorem dX12_leastOf_29 : decode cX12_leastOf 29 = .ok (.iload 4, 2) := by decide +kernel
theorem dX12_leastOf_31 : decode cX12_leastOf 31 = .ok (.aload_n 0, 1) := by decide +kernel
theorem dX12_leastOf_32 : decode cX12_leastOf 32 = .ok (.getfield 26, 3) := by decide +kernel
theorem dX12_leastOf_35 : decode cX12_leastOf 35 = .ok (.invokevirtual 22, 3) := by decide +kernel
theorem dX12_leastOf_38 : decode cX12_leastOf 38 = .ok (.istore 5, 2) := by decide +kernel
theorem dX12_leastOf_40 : decode cX12_leastOf 40 = .ok (.iconst 1, 1) := by decide +kernel
theorem dX12_leastOf_41 : decode cX12_leastOf 41 = .ok (.istore 6, 2) := by decide +kernel
theorem dX12_leastOf_43 : decode cX12_leastOf 43 = .ok (.iconst 0, 1) := by decide +kernel
theorem dX12_leastOf_44 : decode cX12_leastOf 44 = .ok (.istore 7, 2) := by decide +kernel
theorem dX12_leastOf_46 : decode cX12_leastOf 46 = .ok (.iload 7, 2) := by decide +kernel
theorem dX12_leastOf_48 : decode cX12_leastOf 48 = .ok (.iload_n 1, 1) := by decide +kernel
theorem dX12_leastOf_49 : decode cX12_leastOf 49 = .ok (.if_icmp .ge 87, 3) := by decide +kernel
theorem dX12_leastOf_52 : decode cX12_leastOf 52 = .ok (.iload 6, 2) := by decide +kernel
theorem dX12_leastOf_54 : decode cX12_leastOf 54 = .ok (.ifCond .eq 82, 3) := by decide +kernel
theorem dX12_leastOf_57 : decode cX12_leastOf 57 = .ok (.aload_n 0, 1) := by decide +kernel
theorem dX12_leastOf_58 : decode cX12_leastOf 58 = .ok (.getfield 94, 3) := by decide +kernel
theorem dX12_leastOf_61 : decode cX12_leastOf 61 = .ok (.bipush 7, 2) := by decide +kernel
theorem dX12_leastOf_63 : decode cX12_leastOf 63 = .ok (.iload 7, 2) := by decide +kernel
theorem dX12_leastOf_65 : decode cX12_leastOf 65 = .ok (.imul, 1) := by decide +kernel
theorem dX12_leastOf_66 : decode cX12_leastOf 66 = .ok (.iload_n 2, 1) := by decide +kernel
theorem dX12_leastOf_67 : decode cX12_leastOf 67 = .ok (.iadd, 1) := by decide +kernel
theorem dX12_leastOf_68 : decode cX12_leastOf 68 = .ok (.iaload, 1) := by decide +kernel
theorem dX12_leastOf_69 : decode cX12_leastOf 69 = .ok (.istore 8, 2) := by decide +kernel
theorem dX12_leastOf_71 : decode cX12_leastOf 71 = .ok (.iconst 0, 1) := by decide +kernel
theorem dX12_leastOf_72 : decode cX12_leastOf 72 = .ok (.istore 9, 2) := by decide +kernel
theorem dX12_leastOf_74 : decode cX12_leastOf 74 = .ok (.iload 9, 2) := by decide +kernel
theorem dX12_leastOf_76 : decode cX12_leastOf 76 = .ok (.iload_n 2, 1) := by decide +kernel
theorem dX12_leastOf_77 : decode cX12_leastOf 77 = .ok (.if_icmp .ge 41, 3) := by decide +kernel
theorem dX12_leastOf_80 : decode cX12_leastOf 80 = .ok (.aload_n 0, 1) := by decide +kernel
theorem dX12_leastOf_81 : decode cX12_leastOf 81 = .ok (.iload 8, 2) := by decide +kernel
theorem dX12_leastOf_83 : decode cX12_leastOf 83 = .ok (.aload_n 0, 1) := by decide +kernel
theorem dX12_leastOf_84 : decode cX12_leastOf 84 = .ok (.aload_n 0, 1) := by decide +kernel
theorem dX12_leastOf_85 : decode cX12_leastOf 85 = .ok (.getfield 26, 3) := by decide +kernel
theorem dX12_leastOf_88 : decode cX12_leastOf 88 = .ok (.iload 9, 2) := by decide +kernel
theorem dX12_leastOf_90 : decode cX12_leastOf 90 = .ok (.iaload, 1) := by decide +kernel
theorem dX12_leastOf_91 : decode cX12_leastOf 91 = .ok (.aload_n 0, 1) := by decide +kernel
theorem dX12_leastOf_92 : decode cX12_leastOf 92 = .ok (.getfield 94, 3) := by decide +kernel
theorem dX12_leastOf_95 : decode cX12_leastOf 95 = .ok (.bipush 7, 2) := by decide +kernel
theorem dX12_leastOf_97 : decode cX12_leastOf 97 = .ok (.iload 7, 2) := by decide +kernel
theorem dX12_leastOf_99 : decode cX12_leastOf 99 = .ok (.imul, 1) := by decide +kernel
theorem dX12_leastOf_100 : decode cX12_leastOf 100 = .ok (.iload 9, 2) := by decide +kernel
theorem dX12_leastOf_102 : decode cX12_leastOf 102 = .ok (.iadd, 1) := by decide +kernel
theorem dX12_leastOf_103 : decode cX12_leastOf 103 = .ok (.iaload, 1) := by decide +kernel
theorem dX12_leastOf_104 : decode cX12_leastOf 104 = .ok (.invokevirtual 119, 3) := by decide +kernel
theorem dX12_leastOf_107 : decode cX12_leastOf 107 = .ok (.invokevirtual 122, 3) := by decide +kernel
theorem dX12_leastOf_110 : decode cX12_leastOf 110 = .ok (.istore 8, 2) := by decide +kernel
theorem dX12_leastOf_112 : decode cX12_leastOf 112 = .ok (.iinc 9 1, 3) := by decide +kernel
theorem dX12_leastOf_115 : decode cX12_leastOf 115 = .ok (.goto (-41), 3) := by decide +kernel
theorem dX12_leastOf_118 : decode cX12_leastOf 118 = .ok (.iload 8, 2) := by decide +kernel
theorem dX12_leastOf_120 : decode cX12_leastOf 120 = .ok (.ifCond .ne 7, 3) := by decide +kernel
theorem dX12_leastOf_123 : decode cX12_leastOf 123 = .ok (.iconst 1, 1) := by decide +kernel
theorem dX12_leastOf_124 : decode cX12_leastOf 124 = .ok (.goto 4, 3) := by decide +kernel
theorem dX12_leastOf_127 : decode cX12_leastOf 127 = .ok (.iconst 0, 1) := by decide +kernel
theorem dX12_leastOf_128 : decode cX12_leastOf 128 = .ok (.istore 6, 2) := by decide +kernel
theorem dX12_leastOf_130 : decode cX12_leastOf 130 = .ok (.iinc 7 1, 3) := by decide +kernel
theorem dX12_leastOf_133 : decode cX12_leastOf 133 = .ok (.goto (-87), 3) := by decide +kernel
theorem dX12_leastOf_136 : decode cX12_leastOf 136 = .ok (.iload 6, 2) := by decide +kernel
theorem dX12_leastOf_138 : decode cX12_leastOf 138 = .ok (.ifCond .eq 8, 3) := by decide +kernel
theorem dX12_leastOf_141 : decode cX12_leastOf 141 = .ok (.iload_n 3, 1) := by decide +kernel
theorem dX12_leastOf_142 : decode cX12_leastOf 142 = .ok (.iload 4, 2) := by decide +kernel
theorem dX12_leastOf_144 : decode cX12_leastOf 144 = .ok (.iadd, 1) := by decide +kernel
theorem dX12_leastOf_145 : decode cX12_leastOf 145 = .ok (.ireturn, 1) := by decide +kernel
theorem dX12_leastOf_146 : decode cX12_leastOf 146 = .ok (.iinc 4 1, 3) := by decide +kernel
theorem dX12_leastOf_149 : decode cX12_leastOf 149 = .ok (.goto (-127), 3) := by decide +kernel
theorem dX12_leastOf_152 : decode cX12_leastOf 152 = .ok (.iinc 2 1, 3) := by decide +kernel
theorem dX12_leastOf_155 : decode cX12_leastOf 155 = .ok (.goto (-153), 3) := by decide +kernel
theorem dX12_leastOf_158 : decode cX12_leastOf 158 = .ok (.ldc 142, 2) := by decide +kernel
theorem dX12_leastOf_160 : decode cX12_leastOf 160 = .ok (.ireturn, 1) := by decide +kernel
set_option maxRecDepth 20000 in
theorem ggX12_wholeOf_X12_power : GoodIn wsX12_wholeOf wsX12_power := goodIn_r _ [9] (by decide +kernel) (by decide +kernel)
set_option maxRecDepth 20000 in
theorem gX12_wholeOf_X12_power : GoodIn wsX12_wholeOf (va_wsS RX12 14 yX12_power wsX12_power) := goodIn_app (goodIn_of _ (by decide +kernel)) ggX12_wholeOf_X12_power
set_option maxRecDepth 20000 in
theorem ggX12_wholeOf_X12_step : GoodIn wsX12_wholeOf wsX12_step := goodIn_r _ [13, 14, 15, 2, 16, 17, 18, 8, 19, 20, 21, 22, 23, 24, 25, 26, 27, 28, 29, 30, 35, 36, 37, 38, 39, 40, 41, 42, 43, 44, 45, 46, 47, 48, 49, 50, 51, 52, 53, 54, 55, 56, 57, 58, 59, 60, 61, 62, 63] (by decide +kernel) (by decide +kernel)
set_option maxRecDepth 20000 in
theorem gX12_wholeOf_X12_step : GoodIn wsX12_wholeOf (wsV RX12 197 RX12 yX12_step wsX12_step) := goodIn_app (goodIn_of _ (by decide +kernel)) ggX12_wholeOf_X12_step
set_option maxRecDepth 20000 in
theorem ggX12_wholeOf_X12_figures : GoodIn wsX12_wholeOf wsX12_figures := goodIn_r _ [34, 2, 35, 36, 37, 38, 39, 40, 41, 42, 43, 44, 45, 46, 47, 48, 49, 50, 51, 52, 53, 54, 55, 56, 57, 58, 59, 60, 61, 62, 63] (by decide +kernel) (by decide +kernel)
set_option maxRecDepth 20000 in
theorem gX12_wholeOf_X12_figures : GoodIn wsX12_wholeOf (wsV RX12 22 RX12 yX12_figures wsX12_figures) := goodIn_app (goodIn_of _ (by decide +kernel)) ggX12_wholeOf_X12_figures
theorem dX12_wholeOf_0 : decode cX12_wholeOf 0 = .ok (.iconst 0, 1) := by decide +kernel
theorem dX12_wholeOf_1 : decode cX12_wholeOf 1 = .ok (.istore_n 2, 1) := by decide +kernel
theorem dX12_wholeOf_2 : decode cX12_wholeOf 2 = .ok (.iload_n 2, 1) := by decide +kernel
theorem dX12_wholeOf_3 : decode cX12_wholeOf 3 = .ok (.aload_n 0, 1) := by decide +kernel
theorem dX12_wholeOf_4 : decode cX12_wholeOf 4 = .ok (.getfield 42, 3) := by decide +kernel
theorem dX12_wholeOf_7 : decode cX12_wholeOf 7 = .ok (.if_icmp .ge 68, 3) := by decide +kernel
theorem dX12_wholeOf_10 : decode cX12_wholeOf 10 = .ok (.aload_n 0, 1) := by decide +kernel
theorem dX12_wholeOf_11 : decode cX12_wholeOf 11 = .ok (.aload_n 0, 1) := by decide +kernel
theorem dX12_wholeOf_12 : decode cX12_wholeOf 12 = .ok (.iload_n 1, 1) := by decide +kernel
theorem dX12_wholeOf_13 : decode cX12_wholeOf 13 = .ok (.aload_n 0, 1) := by decide +kernel
theorem dX12_wholeOf_14 : decode cX12_wholeOf 14 = .ok (.getfield 11, 3) := by decide +kernel
theorem dX12_wholeOf_17 : decode cX12_wholeOf 17 = .ok (.iload_n 2, 1) := by decide +kernel
theorem dX12_wholeOf_18 : decode cX12_wholeOf 18 = .ok (.invokestatic 14, 3) := by decide +kernel
theorem dX12_wholeOf_21 : decode cX12_wholeOf 21 = .ok (.invokevirtual 197, 3) := by decide +kernel
theorem dX12_wholeOf_24 : decode cX12_wholeOf 24 = .ok (.aload_n 0, 1) := by decide +kernel
theorem dX12_wholeOf_25 : decode cX12_wholeOf 25 = .ok (.getfield 26, 3) := by decide +kernel
theorem dX12_wholeOf_28 : decode cX12_wholeOf 28 = .ok (.invokevirtual 22, 3) := by decide +kernel
theorem dX12_wholeOf_31 : decode cX12_wholeOf 31 = .ok (.istore_n 3, 1) := by decide +kernel
theorem dX12_wholeOf_32 : decode cX12_wholeOf 32 = .ok (.iconst 0, 1) := by decide +kernel
theorem dX12_wholeOf_33 : decode cX12_wholeOf 33 = .ok (.istore 4, 2) := by decide +kernel
theorem dX12_wholeOf_35 : decode cX12_wholeOf 35 = .ok (.iload 4, 2) := by decide +kernel
theorem dX12_wholeOf_37 : decode cX12_wholeOf 37 = .ok (.aload_n 0, 1) := by decide +kernel
theorem dX12_wholeOf_38 : decode cX12_wholeOf 38 = .ok (.getfield 42, 3) := by decide +kernel
theorem dX12_wholeOf_41 : decode cX12_wholeOf 41 = .ok (.if_icmp .ge 28, 3) := by decide +kernel
theorem dX12_wholeOf_44 : decode cX12_wholeOf 44 = .ok (.aload_n 0, 1) := by decide +kernel
theorem dX12_wholeOf_45 : decode cX12_wholeOf 45 = .ok (.getfield 100, 3) := by decide +kernel
theorem dX12_wholeOf_48 : decode cX12_wholeOf 48 = .ok (.bipush 6, 2) := by decide +kernel
theorem dX12_wholeOf_50 : decode cX12_wholeOf 50 = .ok (.iload_n 2, 1) := by decide +kernel
theorem dX12_wholeOf_51 : decode cX12_wholeOf 51 = .ok (.imul, 1) := by decide +kernel
theorem dX12_wholeOf_52 : decode cX12_wholeOf 52 = .ok (.iload 4, 2) := by decide +kernel
theorem dX12_wholeOf_54 : decode cX12_wholeOf 54 = .ok (.iadd, 1) := by decide +kernel
theorem dX12_wholeOf_55 : decode cX12_wholeOf 55 = .ok (.aload_n 0, 1) := by decide +kernel
theorem dX12_wholeOf_56 : decode cX12_wholeOf 56 = .ok (.getfield 26, 3) := by decide +kernel
theorem dX12_wholeOf_59 : decode cX12_wholeOf 59 = .ok (.iload 4, 2) := by decide +kernel
theorem dX12_wholeOf_61 : decode cX12_wholeOf 61 = .ok (.iaload, 1) := by decide +kernel
theorem dX12_wholeOf_62 : decode cX12_wholeOf 62 = .ok (.iastore, 1) := by decide +kernel
theorem dX12_wholeOf_63 : decode cX12_wholeOf 63 = .ok (.iinc 4 1, 3) := by decide +kernel
theorem dX12_wholeOf_66 : decode cX12_wholeOf 66 = .ok (.goto (-31), 3) := by decide +kernel
theorem dX12_wholeOf_69 : decode cX12_wholeOf 69 = .ok (.iinc 2 1, 3) := by decide +kernel
theorem dX12_wholeOf_72 : decode cX12_wholeOf 72 = .ok (.goto (-70), 3) := by decide +kernel
theorem dX12_wholeOf_75 : decode cX12_wholeOf 75 = .ok (.iconst 0, 1) := by decide +kernel
theorem dX12_wholeOf_76 : decode cX12_wholeOf 76 = .ok (.istore_n 2, 1) := by decide +kernel
theorem dX12_wholeOf_77 : decode cX12_wholeOf 77 = .ok (.iload_n 2, 1) := by decide +kernel
theorem dX12_wholeOf_78 : decode cX12_wholeOf 78 = .ok (.sipush 448, 3) := by decide +kernel
theorem dX12_wholeOf_81 : decode cX12_wholeOf 81 = .ok (.if_icmp .ge 24, 3) := by decide +kernel
theorem dX12_wholeOf_84 : decode cX12_wholeOf 84 = .ok (.aload_n 0, 1) := by decide +kernel
theorem dX12_wholeOf_85 : decode cX12_wholeOf 85 = .ok (.getfield 97, 3) := by decide +kernel
theorem dX12_wholeOf_88 : decode cX12_wholeOf 88 = .ok (.iload_n 2, 1) := by decide +kernel
theorem dX12_wholeOf_89 : decode cX12_wholeOf 89 = .ok (.iload_n 2, 1) := by decide +kernel
theorem dX12_wholeOf_90 : decode cX12_wholeOf 90 = .ok (.ifCond .ne 7, 3) := by decide +kernel
theorem dX12_wholeOf_93 : decode cX12_wholeOf 93 = .ok (.iconst 1, 1) := by decide +kernel
theorem dX12_wholeOf_94 : decode cX12_wholeOf 94 = .ok (.goto 4, 3) := by decide +kernel
theorem dX12_wholeOf_97 : decode cX12_wholeOf 97 = .ok (.iconst 0, 1) := by decide +kernel
theorem dX12_wholeOf_98 : decode cX12_wholeOf 98 = .ok (.iastore, 1) := by decide +kernel
theorem dX12_wholeOf_99 : decode cX12_wholeOf 99 = .ok (.iinc 2 1, 3) := by decide +kernel
theorem dX12_wholeOf_102 : decode cX12_wholeOf 102 = .ok (.goto (-25), 3) := by decide +kernel
theorem dX12_wholeOf_105 : decode cX12_wholeOf 105 = .ok (.iconst 1, 1) := by decide +kernel
theorem dX12_wholeOf_106 : decode cX12_wholeOf 106 = .ok (.istore_n 2, 1) := by decide +kernel
theorem dX12_wholeOf_107 : decode cX12_wholeOf 107 = .ok (.iload_n 2, 1) := by decide +kernel
theorem dX12_wholeOf_108 : decode cX12_wholeOf 108 = .ok (.iconst 1, 1) := by decide +kernel
theorem dX12_wholeOf_109 : decode cX12_wholeOf 109 = .ok (.aload_n 0, 1) := by decide +kernel
theorem dX12_wholeOf_110 : decode cX12_wholeOf 110 = .ok (.getfield 42, 3) := by decide +kernel
theorem dX12_wholeOf_113 : decode cX12_wholeOf 113 = .ok (.ishl, 1) := by decide +kernel
theorem dX12_wholeOf_114 : decode cX12_wholeOf 114 = .ok (.if_icmp .ge 211, 3) := by decide +kernel
theorem dX12_wholeOf_117 : decode cX12_wholeOf 117 = .ok (.iconst (-1), 1) := by decide +kernel
theorem dX12_wholeOf_118 : decode cX12_wholeOf 118 = .ok (.istore_n 3, 1) := by decide +kernel
theorem dX12_wholeOf_119 : decode cX12_wholeOf 119 = .ok (.iconst 0, 1) := by decide +kernel
theorem dX12_wholeOf_120 : decode cX12_wholeOf 120 = .ok (.istore 4, 2) := by decide +kernel
theorem dX12_wholeOf_122 : decode cX12_wholeOf 122 = .ok (.iload 4, 2) := by decide +kernel
theorem dX12_wholeOf_124 : decode cX12_wholeOf 124 = .ok (.aload_n 0, 1) := by decide +kernel
theorem dX12_wholeOf_125 : decode cX12_wholeOf 125 = .ok (.getfield 42, 3) := by decide +kernel
theorem dX12_wholeOf_128 : decode cX12_wholeOf 128 = .ok (.if_icmp .ge 18, 3) := by decide +kernel
theorem dX12_wholeOf_131 : decode cX12_wholeOf 131 = .ok (.iload_n 3, 1) := by decide +kernel
theorem dX12_wholeOf_132 : decode cX12_wholeOf 132 = .ok (.iload_n 2, 1) := by decide +kernel
theorem dX12_wholeOf_133 : decode cX12_wholeOf 133 = .ok (.iload 4, 2) := by decide +kernel
theorem dX12_wholeOf_135 : decode cX12_wholeOf 135 = .ok (.ishr, 1) := by decide +kernel
theorem dX12_wholeOf_136 : decode cX12_wholeOf 136 = .ok (.iconst 1, 1) := by decide +kernel
theorem dX12_wholeOf_137 : decode cX12_wholeOf 137 = .ok (.iand, 1) := by decide +kernel
theorem dX12_wholeOf_138 : decode cX12_wholeOf 138 = .ok (.iadd, 1) := by decide +kernel
theorem dX12_wholeOf_139 : decode cX12_wholeOf 139 = .ok (.istore_n 3, 1) := by decide +kernel
theorem dX12_wholeOf_140 : decode cX12_wholeOf 140 = .ok (.iinc 4 1, 3) := by decide +kernel
theorem dX12_wholeOf_143 : decode cX12_wholeOf 143 = .ok (.goto (-21), 3) := by decide +kernel
theorem dX12_wholeOf_146 : decode cX12_wholeOf 146 = .ok (.iconst 0, 1) := by decide +kernel
theorem dX12_wholeOf_147 : decode cX12_wholeOf 147 = .ok (.istore 4, 2) := by decide +kernel
theorem dX12_wholeOf_149 : decode cX12_wholeOf 149 = .ok (.aload_n 0, 1) := by decide +kernel
theorem dX12_wholeOf_150 : decode cX12_wholeOf 150 = .ok (.getfield 42, 3) := by decide +kernel
theorem dX12_wholeOf_153 : decode cX12_wholeOf 153 = .ok (.iconst 1, 1) := by decide +kernel
theorem dX12_wholeOf_154 : decode cX12_wholeOf 154 = .ok (.isub, 1) := by decide +kernel
theorem dX12_wholeOf_155 : decode cX12_wholeOf 155 = .ok (.istore 5, 2) := by decide +kernel
theorem dX12_wholeOf_157 : decode cX12_wholeOf 157 = .ok (.iload 5, 2) := by decide +kernel
theorem dX12_wholeOf_159 : decode cX12_wholeOf 159 = .ok (.ifCond .lt 160, 3) := by decide +kernel
theorem dX12_wholeOf_162 : decode cX12_wholeOf 162 = .ok (.iload_n 2, 1) := by decide +kernel
theorem dX12_wholeOf_163 : decode cX12_wholeOf 163 = .ok (.iload 5, 2) := by decide +kernel
theorem dX12_wholeOf_165 : decode cX12_wholeOf 165 = .ok (.ishr, 1) := by decide +kernel
theorem dX12_wholeOf_166 : decode cX12_wholeOf 166 = .ok (.iconst 1, 1) := by decide +kernel
theorem dX12_wholeOf_167 : decode cX12_wholeOf 167 = .ok (.iand, 1) := by decide +kernel
theorem dX12_wholeOf_168 : decode cX12_wholeOf 168 = .ok (.iconst 1, 1) := by decide +kernel
theorem dX12_wholeOf_169 : decode cX12_wholeOf 169 = .ok (.if_icmp .ne 144, 3) := by decide +kernel
theorem dX12_wholeOf_172 : decode cX12_wholeOf 172 = .ok (.bipush 7, 2) := by decide +kernel
theorem dX12_wholeOf_174 : decode cX12_wholeOf 174 = .ok (.iload_n 2, 1) := by decide +kernel
theorem dX12_wholeOf_175 : decode cX12_wholeOf 175 = .ok (.iconst 1, 1) := by decide +kernel
theorem dX12_wholeOf_176 : decode cX12_wholeOf 176 = .ok (.iload 5, 2) := by decide +kernel
theorem dX12_wholeOf_178 : decode cX12_wholeOf 178 = .ok (.ishl, 1) := by decide +kernel
theorem dX12_wholeOf_179 : decode cX12_wholeOf 179 = .ok (.iconst (-1), 1) := by decide +kernel
theorem dX12_wholeOf_180 : decode cX12_wholeOf 180 = .ok (.ixor, 1) := by decide +kernel
theorem dX12_wholeOf_181 : decode cX12_wholeOf 181 = .ok (.iand, 1) := by decide +kernel
theorem dX12_wholeOf_182 : decode cX12_wholeOf 182 = .ok (.imul, 1) := by decide +kernel
theorem dX12_wholeOf_183 : decode cX12_wholeOf 183 = .ok (.istore 6, 2) := by decide +kernel
theorem dX12_wholeOf_185 : decode cX12_wholeOf 185 = .ok (.iconst 0, 1) := by decide +kernel
theorem dX12_wholeOf_186 : decode cX12_wholeOf 186 = .ok (.istore 7, 2) := by decide +kernel
theorem dX12_wholeOf_188 : decode cX12_wholeOf 188 = .ok (.iload 7, 2) := by decide +kernel
theorem dX12_wholeOf_190 : decode cX12_wholeOf 190 = .ok (.bipush 7, 2) := by decide +kernel
theorem dX12_wholeOf_192 : decode cX12_wholeOf 192 = .ok (.if_icmp .ge 118, 3) := by decide +kernel
theorem dX12_wholeOf_195 : decode cX12_wholeOf 195 = .ok (.aload_n 0, 1) := by decide +kernel
theorem dX12_wholeOf_196 : decode cX12_wholeOf 196 = .ok (.getfield 11, 3) := by decide +kernel
theorem dX12_wholeOf_199 : decode cX12_wholeOf 199 = .ok (.aload_n 0, 1) := by decide +kernel
theorem dX12_wholeOf_200 : decode cX12_wholeOf 200 = .ok (.getfield 100, 3) := by decide +kernel
theorem dX12_wholeOf_203 : decode cX12_wholeOf 203 = .ok (.bipush 6, 2) := by decide +kernel
theorem dX12_wholeOf_205 : decode cX12_wholeOf 205 = .ok (.iload_n 3, 1) := by decide +kernel
theorem dX12_wholeOf_206 : decode cX12_wholeOf 206 = .ok (.imul, 1) := by decide +kernel
theorem dX12_wholeOf_207 : decode cX12_wholeOf 207 = .ok (.iload 5, 2) := by decide +kernel
theorem dX12_wholeOf_209 : decode cX12_wholeOf 209 = .ok (.iadd, 1) := by decide +kernel
theorem dX12_wholeOf_210 : decode cX12_wholeOf 210 = .ok (.iaload, 1) := by decide +kernel
theorem dX12_wholeOf_211 : decode cX12_wholeOf 211 = .ok (.isub, 1) := by decide +kernel
theorem dX12_wholeOf_212 : decode cX12_wholeOf 212 = .ok (.aload_n 0, 1) := by decide +kernel
theorem dX12_wholeOf_213 : decode cX12_wholeOf 213 = .ok (.getfield 97, 3) := by decide +kernel
theorem dX12_wholeOf_216 : decode cX12_wholeOf 216 = .ok (.iload 6, 2) := by decide +kernel
theorem dX12_wholeOf_218 : decode cX12_wholeOf 218 = .ok (.iload 7, 2) := by decide +kernel
theorem dX12_wholeOf_220 : decode cX12_wholeOf 220 = .ok (.iadd, 1) := by decide +kernel
theorem dX12_wholeOf_221 : decode cX12_wholeOf 221 = .ok (.iaload, 1) := by decide +kernel
theorem dX12_wholeOf_222 : decode cX12_wholeOf 222 = .ok (.imul, 1) := by decide +kernel
theorem dX12_wholeOf_223 : decode cX12_wholeOf 223 = .ok (.iload_n 3, 1) := by decide +kernel
theorem dX12_wholeOf_224 : decode cX12_wholeOf 224 = .ok (.iload 5, 2) := by decide +kernel
theorem dX12_wholeOf_226 : decode cX12_wholeOf 226 = .ok (.if_icmp .ne 23, 3) := by decide +kernel
theorem dX12_wholeOf_229 : decode cX12_wholeOf 229 = .ok (.iload 7, 2) := by decide +kernel
theorem dX12_wholeOf_231 : decode cX12_wholeOf 231 = .ok (.ifCond .le 18, 3) := by decide +kernel
theorem dX12_wholeOf_234 : decode cX12_wholeOf 234 = .ok (.aload_n 0, 1) := by decide +kernel
theorem dX12_wholeOf_235 : decode cX12_wholeOf 235 = .ok (.getfield 97, 3) := by decide +kernel
theorem dX12_wholeOf_238 : decode cX12_wholeOf 238 = .ok (.iload 6, 2) := by decide +kernel
theorem dX12_wholeOf_240 : decode cX12_wholeOf 240 = .ok (.iload 7, 2) := by decide +kernel
theorem dX12_wholeOf_242 : decode cX12_wholeOf 242 = .ok (.iadd, 1) := by decide +kernel
theorem dX12_wholeOf_243 : decode cX12_wholeOf 243 = .ok (.iconst 1, 1) := by decide +kernel
theorem dX12_wholeOf_244 : decode cX12_wholeOf 244 = .ok (.isub, 1) := by decide +kernel
theorem dX12_wholeOf_245 : decode cX12_wholeOf 245 = .ok (.iaload, 1) := by decide +kernel
theorem dX12_wholeOf_246 : decode cX12_wholeOf 246 = .ok (.goto 4, 3) := by decide +kernel
theorem dX12_wholeOf_249 : decode cX12_wholeOf 249 = .ok (.iconst 0, 1) := by decide +kernel
theorem dX12_wholeOf_250 : decode cX12_wholeOf 250 = .ok (.iadd, 1) := by decide +kernel
theorem dX12_wholeOf_251 : decode cX12_wholeOf 251 = .ok (.istore 8, 2) := by decide +kernel
theorem dX12_wholeOf_253 : decode cX12_wholeOf 253 = .ok (.aload_n 0, 1) := by decide +kernel
theorem dX12_wholeOf_254 : decode cX12_wholeOf 254 = .ok (.getfield 97, 3) := by decide +kernel
theorem dX12_wholeOf_257 : decode cX12_wholeOf 257 = .ok (.bipush 7, 2) := by decide +kernel
theorem dX12_wholeOf_259 : decode cX12_wholeOf 259 = .ok (.iload_n 2, 1) := by decide +kernel
theorem dX12_wholeOf_260 : decode cX12_wholeOf 260 = .ok (.imul, 1) := by decide +kernel
theorem dX12_wholeOf_261 : decode cX12_wholeOf 261 = .ok (.iload 7, 2) := by decide +kernel
theorem dX12_wholeOf_263 : decode cX12_wholeOf 263 = .ok (.iadd, 1) := by decide +kernel
theorem dX12_wholeOf_264 : decode cX12_wholeOf 264 = .ok (.aload_n 0, 1) := by decide +kernel
theorem dX12_wholeOf_265 : decode cX12_wholeOf 265 = .ok (.getfield 97, 3) := by decide +kernel
theorem dX12_wholeOf_268 : decode cX12_wholeOf 268 = .ok (.bipush 7, 2) := by decide +kernel
theorem dX12_wholeOf_270 : decode cX12_wholeOf 270 = .ok (.iload_n 2, 1) := by decide +kernel
theorem dX12_wholeOf_271 : decode cX12_wholeOf 271 = .ok (.imul, 1) := by decide +kernel
theorem dX12_wholeOf_272 : decode cX12_wholeOf 272 = .ok (.iload 7, 2) := by decide +kernel
theorem dX12_wholeOf_274 : decode cX12_wholeOf 274 = .ok (.iadd, 1) := by decide +kernel
theorem dX12_wholeOf_275 : decode cX12_wholeOf 275 = .ok (.iaload, 1) := by decide +kernel
theorem dX12_wholeOf_276 : decode cX12_wholeOf 276 = .ok (.iload 4, 2) := by decide +kernel
theorem dX12_wholeOf_278 : decode cX12_wholeOf 278 = .ok (.iconst 2, 1) := by decide +kernel
theorem dX12_wholeOf_279 : decode cX12_wholeOf 279 = .ok (.irem, 1) := by decide +kernel
theorem dX12_wholeOf_280 : decode cX12_wholeOf 280 = .ok (.ifCond .ne 8, 3) := by decide +kernel
theorem dX12_wholeOf_283 : decode cX12_wholeOf 283 = .ok (.iload 8, 2) := by decide +kernel
theorem dX12_wholeOf_285 : decode cX12_wholeOf 285 = .ok (.goto 12, 3) := by decide +kernel
theorem dX12_wholeOf_288 : decode cX12_wholeOf 288 = .ok (.aload_n 0, 1) := by decide +kernel
theorem dX12_wholeOf_289 : decode cX12_wholeOf 289 = .ok (.getfield 11, 3) := by decide +kernel
theorem dX12_wholeOf_292 : decode cX12_wholeOf 292 = .ok (.iconst 1, 1) := by decide +kernel
theorem dX12_wholeOf_293 : decode cX12_wholeOf 293 = .ok (.isub, 1) := by decide +kernel
theorem dX12_wholeOf_294 : decode cX12_wholeOf 294 = .ok (.iload 8, 2) := by decide +kernel
theorem dX12_wholeOf_296 : decode cX12_wholeOf 296 = .ok (.imul, 1) := by decide +kernel
theorem dX12_wholeOf_297 : decode cX12_wholeOf 297 = .ok (.iadd, 1) := by decide +kernel
theorem dX12_wholeOf_298 : decode cX12_wholeOf 298 = .ok (.aload_n 0, 1) := by decide +kernel
theorem dX12_wholeOf_299 : decode cX12_wholeOf 299 = .ok (.getfield 11, 3) := by decide +kernel
theorem dX12_wholeOf_302 : decode cX12_wholeOf 302 = .ok (.irem, 1) := by decide +kernel
theorem dX12_wholeOf_303 : decode cX12_wholeOf 303 = .ok (.iastore, 1) := by decide +kernel
theorem dX12_wholeOf_304 : decode cX12_wholeOf 304 = .ok (.iinc 7 1, 3) := by decide +kernel
theorem dX12_wholeOf_307 : decode cX12_wholeOf 307 = .ok (.goto (-119), 3) := by decide +kernel
theorem dX12_wholeOf_310 : decode cX12_wholeOf 310 = .ok (.iinc 4 1, 3) := by decide +kernel
theorem dX12_wholeOf_313 : decode cX12_wholeOf 313 = .ok (.iinc 5 (-1), 3) := by decide +kernel
theorem dX12_wholeOf_316 : decode cX12_wholeOf 316 = .ok (.goto (-159), 3) := by decide +kernel
theorem dX12_wholeOf_319 : decode cX12_wholeOf 319 = .ok (.iinc 2 1, 3) := by decide +kernel
theorem dX12_wholeOf_322 : decode cX12_wholeOf 322 = .ok (.goto (-215), 3) := by decide +kernel
theorem dX12_wholeOf_325 : decode cX12_wholeOf 325 = .ok (.iconst 0, 1) := by decide +kernel
theorem dX12_wholeOf_326 : decode cX12_wholeOf 326 = .ok (.istore_n 2, 1) := by decide +kernel
theorem dX12_wholeOf_327 : decode cX12_wholeOf 327 = .ok (.bipush 6, 2) := by decide +kernel
theorem dX12_wholeOf_329 : decode cX12_wholeOf 329 = .ok (.istore_n 3, 1) := by decide +kernel
theorem dX12_wholeOf_330 : decode cX12_wholeOf 330 = .ok (.iload_n 3, 1) := by decide +kernel
theorem dX12_wholeOf_331 : decode cX12_wholeOf 331 = .ok (.ifCond .lt 35, 3) := by decide +kernel
theorem dX12_wholeOf_334 : decode cX12_wholeOf 334 = .ok (.iload_n 2, 1) := by decide +kernel
theorem dX12_wholeOf_335 : decode cX12_wholeOf 335 = .ok (.aload_n 0, 1) := by decide +kernel
theorem dX12_wholeOf_336 : decode cX12_wholeOf 336 = .ok (.getfield 11, 3) := by decide +kernel
theorem dX12_wholeOf_339 : decode cX12_wholeOf 339 = .ok (.imul, 1) := by decide +kernel
theorem dX12_wholeOf_340 : decode cX12_wholeOf 340 = .ok (.aload_n 0, 1) := by decide +kernel
theorem dX12_wholeOf_341 : decode cX12_wholeOf 341 = .ok (.getfield 97, 3) := by decide +kernel
theorem dX12_wholeOf_344 : decode cX12_wholeOf 344 = .ok (.bipush 7, 2) := by decide +kernel
theorem dX12_wholeOf_346 : decode cX12_wholeOf 346 = .ok (.iconst 1, 1) := by decide +kernel
theorem dX12_wholeOf_347 : decode cX12_wholeOf 347 = .ok (.aload_n 0, 1) := by decide +kernel
theorem dX12_wholeOf_348 : decode cX12_wholeOf 348 = .ok (.getfield 42, 3) := by decide +kernel
theorem dX12_wholeOf_351 : decode cX12_wholeOf 351 = .ok (.ishl, 1) := by decide +kernel
theorem dX12_wholeOf_352 : decode cX12_wholeOf 352 = .ok (.iconst 1, 1) := by decide +kernel
theorem dX12_wholeOf_353 : decode cX12_wholeOf 353 = .ok (.isub, 1) := by decide +kernel
theorem dX12_wholeOf_354 : decode cX12_wholeOf 354 = .ok (.imul, 1) := by decide +kernel
theorem dX12_wholeOf_355 : decode cX12_wholeOf 355 = .ok (.iload_n 3, 1) := by decide +kernel
theorem dX12_wholeOf_356 : decode cX12_wholeOf 356 = .ok (.iadd, 1) := by decide +kernel
theorem dX12_wholeOf_357 : decode cX12_wholeOf 357 = .ok (.iaload, 1) := by decide +kernel
theorem dX12_wholeOf_358 : decode cX12_wholeOf 358 = .ok (.iadd, 1) := by decide +kernel
theorem dX12_wholeOf_359 : decode cX12_wholeOf 359 = .ok (.istore_n 2, 1) := by decide +kernel
theorem dX12_wholeOf_360 : decode cX12_wholeOf 360 = .ok (.iinc 3 (-1), 3) := by decide +kernel
theorem dX12_wholeOf_363 : decode cX12_wholeOf 363 = .ok (.goto (-33), 3) := by decide +kernel
theorem dX12_wholeOf_366 : decode cX12_wholeOf 366 = .ok (.iload_n 2, 1) := by decide +kernel
theorem dX12_wholeOf_367 : decode cX12_wholeOf 367 = .ok (.ireturn, 1) := by decide +kernel
set_option maxRecDepth 20000 in
theorem ggX12_told_X12_isPlace : GoodIn wsX12_told wsX12_isPlace := goodIn_r _ [11, 2, 12, 13, 10, 14] (by decide +kernel) (by decide +kernel)
set_option maxRecDepth 20000 in
theorem gX12_told_X12_isPlace : GoodIn wsX12_told (va_wsS RX12 181 yX12_isPlace wsX12_isPlace) := goodIn_app (goodIn_of _ (by decide +kernel)) ggX12_told_X12_isPlace
set_option maxRecDepth 20000 in
theorem ggX12_told_X12_in : GoodIn wsX12_told wsX12_in := goodIn_r _ [14] (by decide +kernel) (by decide +kernel)
set_option maxRecDepth 20000 in
theorem gX12_told_X12_in : GoodIn wsX12_told (va_wsS RX12 129 yX12_in wsX12_in) := goodIn_app (goodIn_of _ (by decide +kernel)) ggX12_told_X12_in
set_option maxRecDepth 20000 in
theorem ggX12_told_X12_look : GoodIn wsX12_told wsX12_look := goodIn_r _ [18, 19, 4, 20, 21, 22, 10, 23, 24, 108, 109, 110, 111, 112, 113, 114, 115, 116, 117, 118, 119, 120, 121, 122, 123, 124, 125, 126, 127, 128, 129, 130, 131, 132, 133, 134, 135, 136] (by decide +kernel) (by decide +kernel)
set_option maxRecDepth 20000 in
theorem gX12_told_X12_look : GoodIn wsX12_told (wsV RX12 200 RX12 yX12_look wsX12_look) := goodIn_app (goodIn_of _ (by decide +kernel)) ggX12_told_X12_look
set_option maxRecDepth 20000 in
theorem ggX12_told_X12_ownOf : GoodIn wsX12_told wsX12_ownOf := goodIn_r _ [28, 29, 5, 30, 31, 32, 10, 33, 7, 34, 35, 36, 37, 38, 39, 40, 41, 42, 43, 44, 6, 45, 46, 47, 48, 49, 50, 51, 52, 53, 54, 55, 56, 57, 58, 59, 60, 108, 109, 110, 111, 112, 113, 114, 115, 116, 117, 118, 119, 120, 121, 122, 123, 124, 125, 126, 127, 128, 129, 130, 131, 132, 133, 134, 135, 136] (by decide +kernel) (by decide +kernel)
set_option maxRecDepth 20000 in
theorem gX12_told_X12_ownOf : GoodIn wsX12_told (wsV RX12 168 RX12 yX12_ownOf wsX12_ownOf) := goodIn_app (goodIn_of _ (by decide +kernel)) ggX12_told_X12_ownOf
set_option maxRecDepth 20000 in
theorem ggX12_told_X12_heightOf : GoodIn wsX12_told wsX12_heightOf := goodIn_r _ [64, 65, 25, 26, 27, 10, 28, 29, 5, 30, 31, 32, 33, 7, 34, 35, 36, 37, 38, 39, 40, 41, 42, 43, 44, 6, 45, 46, 47, 48, 49, 50, 51, 52, 53, 54, 55, 56, 57, 58, 59, 60, 66, 67, 68, 69, 70, 71, 4, 72, 73, 74, 75, 108, 109, 110, 111, 112, 113, 114, 115, 116, 117, 118, 119, 120, 121, 122, 123, 124, 125, 126, 127, 128, 129, 130, 131, 132, 133, 134, 135, 136] (by decide +kernel) (by decide +kernel)
set_option maxRecDepth 20000 in
theorem gX12_told_X12_heightOf : GoodIn wsX12_told (wsV RX12 175 RX12 yX12_heightOf wsX12_heightOf) := goodIn_app (goodIn_of _ (by decide +kernel)) ggX12_told_X12_heightOf
set_option maxRecDepth 20000 in
theorem ggX12_told_X12_wholeOf : GoodIn wsX12_told wsX12_wholeOf := goodIn_r _ [79, 6, 7, 80, 81, 82, 83, 84, 10, 85, 86, 87, 88, 89, 4, 5, 45, 46, 47, 48, 38, 39, 40, 53, 54, 55, 56, 34, 35, 36, 37, 72, 73, 74, 75, 108, 109, 110, 111, 112, 113, 114, 115, 116, 117, 118, 119, 120, 121, 122, 123, 124, 125, 126, 127, 128, 129, 130, 131, 132, 133, 134, 135, 136] (by decide +kernel) (by decide +kernel)
set_option maxRecDepth 20000 in
theorem gX12_told_X12_wholeOf : GoodIn wsX12_told (wsV RX12 203 RX12 yX12_wholeOf wsX12_wholeOf) := goodIn_app (goodIn_of _ (by decide +kernel)) ggX12_told_X12_wholeOf
set_option maxRecDepth 20000 in
theorem ggX12_told_X12_power : GoodIn wsX12_told wsX12_power := goodIn_r _ [85] (by decide +kernel) (by decide +kernel)
set_option maxRecDepth 20000 in
theorem gX12_told_X12_power : GoodIn wsX12_told (va_wsS RX12 14 yX12_power wsX12_power) := goodIn_app (goodIn_of _ (by decide +kernel)) ggX12_told_X12_power
set_option maxRecDepth 20000 in
theorem ggX12_told_X12_goOn : GoodIn wsX12_told wsX12_goOn := goodIn_r _ [93, 94, 86, 87, 88, 10, 89, 4, 5, 7, 45, 46, 47, 48, 38, 39, 40, 53, 54, 55, 56, 34, 35, 36, 37, 108, 109, 110, 111, 112, 113, 114, 115, 116, 117, 118, 119, 120, 121, 122, 123, 124, 125, 126, 127, 128, 129, 130, 131, 132, 133, 134, 135, 136] (by decide +kernel) (by decide +kernel)
set_option maxRecDepth 20000 in
theorem gX12_told_X12_goOn : GoodIn wsX12_told (wsV RX12 206 RX12 yX12_goOn wsX12_goOn) := goodIn_app (goodIn_of _ (by decide +kernel)) ggX12_told_X12_goOn
set_option maxRecDepth 20000 in
theorem ggX12_told_X12_leastOf : GoodIn wsX12_told wsX12_leastOf := goodIn_r _ [98, 6, 7, 80, 94, 99, 83, 84, 10, 85, 72, 73, 74, 75, 45, 46, 47, 48, 38, 39, 40, 53, 54, 55, 56, 108, 109, 110, 111, 112, 113, 114, 115, 116, 117, 118, 119, 120, 121, 122, 123, 124, 125, 126, 127, 128, 129, 130, 131, 132, 133, 134, 135, 136] (by decide +kernel) (by decide +kernel)
set_option maxRecDepth 20000 in
theorem gX12_told_X12_leastOf : GoodIn wsX12_told (wsV RX12 210 RX12 yX12_leastOf wsX12_leastOf) := goodIn_app (goodIn_of _ (by decide +kernel)) ggX12_told_X12_leastOf
set_option maxRecDepth 20000 in
theorem ggX12_told_X12_markOf : GoodIn wsX12_told wsX12_markOf := goodIn_r _ [103, 5, 7, 34, 35, 36, 10, 37, 38, 39, 40, 104, 105, 106, 107, 45, 46, 47, 48, 108, 109, 110, 111, 112, 113, 114, 115, 116, 117, 118, 119, 120, 121, 122, 123, 124, 125, 126, 127, 128, 129, 130, 131, 132, 133, 134, 135, 136] (by decide +kernel) (by decide +kernel)
set_option maxRecDepth 20000 in
theorem gX12_told_X12_markOf : GoodIn wsX12_told (wsV RX12 213 RX12 yX12_markOf wsX12_markOf) := goodIn_app (goodIn_of _ (by decide +kernel)) ggX12_told_X12_markOf
set_option maxRecDepth 20000 in
theorem ggX12_told_X12_found : GoodIn wsX12_told wsX12_found := goodIn_r _ [23, 19, 24, 108, 109, 110, 111, 112, 113, 114, 115, 116, 117, 118, 119, 120, 121, 122, 123, 124, 125, 126, 127, 128, 129, 130, 131, 132, 133, 134, 135, 136] (by decide +kernel) (by decide +kernel)
set_option maxRecDepth 20000 in
theorem gX12_told_X12_found : GoodIn wsX12_told (wsV RX12 154 RX12 yX12_found wsX12_found) := goodIn_app (goodIn_of _ (by decide +kernel)) ggX12_told_X12_found
theorem dX12_told_0 : decode cX12_told 0 = .ok (.aload_n 0, 1) := by decide +kernel
theorem dX12_told_1 : decode cX12_told 1 = .ok (.iconst 0, 1) := by decide +kernel
theorem dX12_told_2 : decode cX12_told 2 = .ok (.putfield 1, 3) := by decide +kernel
theorem dX12_told_5 : decode cX12_told 5 = .ok (.iload_n 1, 1) := by decide +kernel
theorem dX12_told_6 : decode cX12_told 6 = .ok (.invokestatic 181, 3) := by decide +kernel
theorem dX12_told_9 : decode cX12_told 9 = .ok (.ifCond .eq 15, 3) := by decide +kernel
theorem dX12_told_12 : decode cX12_told 12 = .ok (.iload_n 2, 1) := by decide +kernel
theorem dX12_told_13 : decode cX12_told 13 = .ok (.i2l, 1) := by decide +kernel
theorem dX12_told_14 : decode cX12_told 14 = .ok (.lconst 0, 1) := by decide +kernel
theorem dX12_told_15 : decode cX12_told 15 = .ok (.ldc2_w 157, 3) := by decide +kernel
theorem dX12_told_18 : decode cX12_told 18 = .ok (.invokestatic 129, 3) := by decide +kernel
theorem dX12_told_21 : decode cX12_told 21 = .ok (.ifCond .ne 6, 3) := by decide +kernel
theorem dX12_told_24 : decode cX12_told 24 = .ok (.ldc 141, 2) := by decide +kernel
theorem dX12_told_26 : decode cX12_told 26 = .ok (.ireturn, 1) := by decide +kernel
theorem dX12_told_27 : decode cX12_told 27 = .ok (.aload_n 0, 1) := by decide +kernel
theorem dX12_told_28 : decode cX12_told 28 = .ok (.iload_n 1, 1) := by decide +kernel
theorem dX12_told_29 : decode cX12_told 29 = .ok (.invokevirtual 200, 3) := by decide +kernel
theorem dX12_told_32 : decode cX12_told 32 = .ok (.istore_n 3, 1) := by decide +kernel
theorem dX12_told_33 : decode cX12_told 33 = .ok (.iload_n 3, 1) := by decide +kernel
theorem dX12_told_34 : decode cX12_told 34 = .ok (.ifCond .ge 5, 3) := by decide +kernel
theorem dX12_told_37 : decode cX12_told 37 = .ok (.iload_n 3, 1) := by decide +kernel
theorem dX12_told_38 : decode cX12_told 38 = .ok (.ireturn, 1) := by decide +kernel
theorem dX12_told_39 : decode cX12_told 39 = .ok (.iload_n 2, 1) := by decide +kernel
theorem dX12_told_40 : decode cX12_told 40 = .ok (.tableswitch 133 0 8 #[52, 59, 59, 59, 59, 72, 78, 84, 90], 52) := by decide +kernel
theorem dX12_told_92 : decode cX12_told 92 = .ok (.aload_n 0, 1) := by decide +kernel
theorem dX12_told_93 : decode cX12_told 93 = .ok (.getfield 70, 3) := by decide +kernel
theorem dX12_told_96 : decode cX12_told 96 = .ok (.iload_n 1, 1) := by decide +kernel
theorem dX12_told_97 : decode cX12_told 97 = .ok (.iaload, 1) := by decide +kernel
theorem dX12_told_98 : decode cX12_told 98 = .ok (.ireturn, 1) := by decide +kernel
theorem dX12_told_99 : decode cX12_told 99 = .ok (.aload_n 0, 1) := by decide +kernel
theorem dX12_told_100 : decode cX12_told 100 = .ok (.getfield 73, 3) := by decide +kernel
theorem dX12_told_103 : decode cX12_told 103 = .ok (.iconst 4, 1) := by decide +kernel
theorem dX12_told_104 : decode cX12_told 104 = .ok (.iload_n 1, 1) := by decide +kernel
theorem dX12_told_105 : decode cX12_told 105 = .ok (.imul, 1) := by decide +kernel
theorem dX12_told_106 : decode cX12_told 106 = .ok (.iload_n 2, 1) := by decide +kernel
theorem dX12_told_107 : decode cX12_told 107 = .ok (.iadd, 1) := by decide +kernel
theorem dX12_told_108 : decode cX12_told 108 = .ok (.iconst 1, 1) := by decide +kernel
theorem dX12_told_109 : decode cX12_told 109 = .ok (.isub, 1) := by decide +kernel
theorem dX12_told_110 : decode cX12_told 110 = .ok (.iaload, 1) := by decide +kernel
theorem dX12_told_111 : decode cX12_told 111 = .ok (.ireturn, 1) := by decide +kernel
theorem dX12_told_112 : decode cX12_told 112 = .ok (.aload_n 0, 1) := by decide +kernel
theorem dX12_told_113 : decode cX12_told 113 = .ok (.iload_n 1, 1) := by decide +kernel
theorem dX12_told_114 : decode cX12_told 114 = .ok (.invokevirtual 168, 3) := by decide +kernel
theorem dX12_told_117 : decode cX12_told 117 = .ok (.ireturn, 1) := by decide +kernel
theorem dX12_told_118 : decode cX12_told 118 = .ok (.aload_n 0, 1) := by decide +kernel
theorem dX12_told_119 : decode cX12_told 119 = .ok (.iload_n 1, 1) := by decide +kernel
theorem dX12_told_120 : decode cX12_told 120 = .ok (.invokevirtual 175, 3) := by decide +kernel
theorem dX12_told_123 : decode cX12_told 123 = .ok (.ireturn, 1) := by decide +kernel
theorem dX12_told_124 : decode cX12_told 124 = .ok (.aload_n 0, 1) := by decide +kernel
theorem dX12_told_125 : decode cX12_told 125 = .ok (.iload_n 1, 1) := by decide +kernel
theorem dX12_told_126 : decode cX12_told 126 = .ok (.invokevirtual 203, 3) := by decide +kernel
theorem dX12_told_129 : decode cX12_told 129 = .ok (.ireturn, 1) := by decide +kernel
theorem dX12_told_130 : decode cX12_told 130 = .ok (.iconst 0, 1) := by decide +kernel
theorem dX12_told_131 : decode cX12_told 131 = .ok (.istore 4, 2) := by decide +kernel
theorem dX12_told_133 : decode cX12_told 133 = .ok (.iload 4, 2) := by decide +kernel
theorem dX12_told_135 : decode cX12_told 135 = .ok (.aload_n 0, 1) := by decide +kernel
theorem dX12_told_136 : decode cX12_told 136 = .ok (.getfield 42, 3) := by decide +kernel
theorem dX12_told_139 : decode cX12_told 139 = .ok (.if_icmp .ge 25, 3) := by decide +kernel
theorem dX12_told_142 : decode cX12_told 142 = .ok (.aload_n 0, 1) := by decide +kernel
theorem dX12_told_143 : decode cX12_told 143 = .ok (.iload_n 1, 1) := by decide +kernel
theorem dX12_told_144 : decode cX12_told 144 = .ok (.iload 4, 2) := by decide +kernel
theorem dX12_told_146 : decode cX12_told 146 = .ok (.aload_n 0, 1) := by decide +kernel
theorem dX12_told_147 : decode cX12_told 147 = .ok (.getfield 11, 3) := by decide +kernel
theorem dX12_told_150 : decode cX12_told 150 = .ok (.iload 4, 2) := by decide +kernel
theorem dX12_told_152 : decode cX12_told 152 = .ok (.invokestatic 14, 3) := by decide +kernel
theorem dX12_told_155 : decode cX12_told 155 = .ok (.invokevirtual 206, 3) := by decide +kernel
theorem dX12_told_158 : decode cX12_told 158 = .ok (.iinc 4 1, 3) := by decide +kernel
theorem dX12_told_161 : decode cX12_told 161 = .ok (.goto (-28), 3) := by decide +kernel
theorem dX12_told_164 : decode cX12_told 164 = .ok (.aload_n 0, 1) := by decide +kernel
theorem dX12_told_165 : decode cX12_told 165 = .ok (.aload_n 0, 1) := by decide +kernel
theorem dX12_told_166 : decode cX12_told 166 = .ok (.getfield 42, 3) := by decide +kernel
theorem dX12_told_169 : decode cX12_told 169 = .ok (.invokevirtual 210, 3) := by decide +kernel
theorem dX12_told_172 : decode cX12_told 172 = .ok (.ireturn, 1) := by decide +kernel
theorem dX12_told_173 : decode cX12_told 173 = .ok (.aload_n 0, 1) := by decide +kernel
theorem dX12_told_174 : decode cX12_told 174 = .ok (.getfield 70, 3) := by decide +kernel
theorem dX12_told_177 : decode cX12_told 177 = .ok (.iload_n 1, 1) := by decide +kernel
theorem dX12_told_178 : decode cX12_told 178 = .ok (.iaload, 1) := by decide +kernel
theorem dX12_told_179 : decode cX12_told 179 = .ok (.iconst 2, 1) := by decide +kernel
theorem dX12_told_180 : decode cX12_told 180 = .ok (.if_icmp .ne 11, 3) := by decide +kernel
theorem dX12_told_183 : decode cX12_told 183 = .ok (.aload_n 0, 1) := by decide +kernel
theorem dX12_told_184 : decode cX12_told 184 = .ok (.iload_n 1, 1) := by decide +kernel
theorem dX12_told_185 : decode cX12_told 185 = .ok (.invokevirtual 213, 3) := by decide +kernel
theorem dX12_told_188 : decode cX12_told 188 = .ok (.goto 8, 3) := by decide +kernel
theorem dX12_told_191 : decode cX12_told 191 = .ok (.aload_n 0, 1) := by decide +kernel
theorem dX12_told_192 : decode cX12_told 192 = .ok (.iconst 3, 1) := by decide +kernel
theorem dX12_told_193 : decode cX12_told 193 = .ok (.invokevirtual 154, 3) := by decide +kernel
theorem dX12_told_196 : decode cX12_told 196 = .ok (.ireturn, 1) := by decide +kernel
set_option maxRecDepth 20000 in
theorem ggX12_isPolynomial_X12_power : GoodIn wsX12_isPolynomial wsX12_power := goodIn_r _ [5] (by decide +kernel) (by decide +kernel)
set_option maxRecDepth 20000 in
theorem gX12_isPolynomial_X12_power : GoodIn wsX12_isPolynomial (va_wsS RX12 14 yX12_power wsX12_power) := goodIn_app (goodIn_of _ (by decide +kernel)) ggX12_isPolynomial_X12_power
set_option maxRecDepth 20000 in
theorem ggX12_isPolynomial_X12_in : GoodIn wsX12_isPolynomial wsX12_in := goodIn_r _ [8] (by decide +kernel) (by decide +kernel)
set_option maxRecDepth 20000 in
theorem gX12_isPolynomial_X12_in : GoodIn wsX12_isPolynomial (va_wsS RX12 129 yX12_in wsX12_in) := goodIn_app (goodIn_of _ (by decide +kernel)) ggX12_isPolynomial_X12_in
theorem dX12_isPolynomial_0 : decode cX12_isPolynomial 0 = .ok (.iload_n 1, 1) := by decide +kernel
theorem dX12_isPolynomial_1 : decode cX12_isPolynomial 1 = .ok (.i2l, 1) := by decide +kernel
theorem dX12_isPolynomial_2 : decode cX12_isPolynomial 2 = .ok (.lconst 0, 1) := by decide +kernel
theorem dX12_isPolynomial_3 : decode cX12_isPolynomial 3 = .ok (.aload_n 0, 1) := by decide +kernel
theorem dX12_isPolynomial_4 : decode cX12_isPolynomial 4 = .ok (.getfield 11, 3) := by decide +kernel
theorem dX12_isPolynomial_7 : decode cX12_isPolynomial 7 = .ok (.bipush 7, 2) := by decide +kernel
theorem dX12_isPolynomial_9 : decode cX12_isPolynomial 9 = .ok (.invokestatic 14, 3) := by decide +kernel
theorem dX12_isPolynomial_12 : decode cX12_isPolynomial 12 = .ok (.iconst 1, 1) := by decide +kernel
theorem dX12_isPolynomial_13 : decode cX12_isPolynomial 13 = .ok (.isub, 1) := by decide +kernel
theorem dX12_isPolynomial_14 : decode cX12_isPolynomial 14 = .ok (.i2l, 1) := by decide +kernel
theorem dX12_isPolynomial_15 : decode cX12_isPolynomial 15 = .ok (.invokestatic 129, 3) := by decide +kernel
theorem dX12_isPolynomial_18 : decode cX12_isPolynomial 18 = .ok (.ireturn, 1) := by decide +kernel
set_option maxRecDepth 20000 in
theorem ggX12_acts_X12_isPlace : GoodIn wsX12_acts wsX12_isPlace := goodIn_r _ [7, 8, 9, 10, 6, 11] (by decide +kernel) (by decide +kernel)
set_option maxRecDepth 20000 in
theorem gX12_acts_X12_isPlace : GoodIn wsX12_acts (va_wsS RX12 181 yX12_isPlace wsX12_isPlace) := goodIn_app (goodIn_of _ (by decide +kernel)) ggX12_acts_X12_isPlace
set_option maxRecDepth 20000 in
theorem ggX12_acts_X12_isPolynomial : GoodIn wsX12_acts wsX12_isPolynomial := goodIn_r _ [15, 16, 17, 18, 6, 19, 9, 10, 11, 70, 71, 72, 73, 74, 75, 76, 77, 78, 79, 80, 81, 82, 83, 84, 85, 86, 87, 88, 89, 90, 91, 92, 93, 94, 95, 96, 97, 98] (by decide +kernel) (by decide +kernel)
set_option maxRecDepth 20000 in
theorem gX12_acts_X12_isPolynomial : GoodIn wsX12_acts (wsV RX12 216 RX12 yX12_isPolynomial wsX12_isPolynomial) := goodIn_app (goodIn_of _ (by decide +kernel)) ggX12_acts_X12_isPolynomial
set_option maxRecDepth 20000 in
theorem ggX12_acts_X12_isElement : GoodIn wsX12_acts wsX12_isElement := goodIn_r _ [23, 24, 9, 10, 6, 11, 70, 71, 72, 73, 74, 75, 76, 77, 78, 79, 80, 81, 82, 83, 84, 85, 86, 87, 88, 89, 90, 91, 92, 93, 94, 95, 96, 97, 98] (by decide +kernel) (by decide +kernel)
set_option maxRecDepth 20000 in
theorem gX12_acts_X12_isElement : GoodIn wsX12_acts (wsV RX12 133 RX12 yX12_isElement wsX12_isElement) := goodIn_app (goodIn_of _ (by decide +kernel)) ggX12_acts_X12_isElement
set_option maxRecDepth 20000 in
theorem ggX12_acts_X12_look : GoodIn wsX12_acts wsX12_look := goodIn_r _ [28, 29, 30, 31, 32, 33, 6, 34, 35, 70, 71, 72, 73, 74, 75, 76, 77, 78, 79, 80, 81, 82, 83, 84, 85, 86, 87, 88, 89, 90, 91, 92, 93, 94, 95, 96, 97, 98] (by decide +kernel) (by decide +kernel)
set_option maxRecDepth 20000 in
theorem gX12_acts_X12_look : GoodIn wsX12_acts (wsV RX12 200 RX12 yX12_look wsX12_look) := goodIn_app (goodIn_of _ (by decide +kernel)) ggX12_acts_X12_look
set_option maxRecDepth 20000 in
theorem ggX12_acts_X12_act : GoodIn wsX12_acts wsX12_act := goodIn_r _ [39, 3, 40, 41, 30, 42, 43, 44, 45, 6, 46, 16, 47, 48, 49, 50, 51, 52, 53, 54, 55, 56, 57, 24, 58, 59, 60, 61, 62, 63, 64, 65, 70, 71, 72, 73, 74, 75, 76, 77, 78, 79, 80, 81, 82, 83, 84, 85, 86, 87, 88, 89, 90, 91, 92, 93, 94, 95, 96, 97, 98] (by decide +kernel) (by decide +kernel)
set_option maxRecDepth 20000 in
theorem gX12_acts_X12_act : GoodIn wsX12_acts (wsV RX12 171 RX12 yX12_act wsX12_act) := goodIn_app (goodIn_of _ (by decide +kernel)) ggX12_acts_X12_act
set_option maxRecDepth 20000 in
theorem ggX12_acts_X12_done : GoodIn wsX12_acts wsX12_done := goodIn_r _ [69, 16, 58, 59, 60, 6, 61, 56, 57, 24, 62, 63, 64, 65, 52, 53, 54, 55, 70, 71, 72, 73, 74, 75, 76, 77, 78, 79, 80, 81, 82, 83, 84, 85, 86, 87, 88, 89, 90, 91, 92, 93, 94, 95, 96, 97, 98] (by decide +kernel) (by decide +kernel)
set_option maxRecDepth 20000 in
theorem gX12_acts_X12_done : GoodIn wsX12_acts (wsV RX12 219 RX12 yX12_done wsX12_done) := goodIn_app (goodIn_of _ (by decide +kernel)) ggX12_acts_X12_done
theorem dX12_acts_0 : decode cX12_acts 0 = .ok (.aload_n 0, 1) := by decide +kernel
theorem dX12_acts_1 : decode cX12_acts 1 = .ok (.iconst 0, 1) := by decide +kernel
theorem dX12_acts_2 : decode cX12_acts 2 = .ok (.putfield 1, 3) := by decide +kernel
theorem dX12_acts_5 : decode cX12_acts 5 = .ok (.iload_n 1, 1) := by decide +kernel
theorem dX12_acts_6 : decode cX12_acts 6 = .ok (.invokestatic 181, 3) := by decide +kernel
theorem dX12_acts_9 : decode cX12_acts 9 = .ok (.ifCond .eq 19, 3) := by decide +kernel
theorem dX12_acts_12 : decode cX12_acts 12 = .ok (.aload_n 0, 1) := by decide +kernel
theorem dX12_acts_13 : decode cX12_acts 13 = .ok (.iload_n 2, 1) := by decide +kernel
theorem dX12_acts_14 : decode cX12_acts 14 = .ok (.invokevirtual 216, 3) := by decide +kernel
theorem dX12_acts_17 : decode cX12_acts 17 = .ok (.ifCond .eq 11, 3) := by decide +kernel
theorem dX12_acts_20 : decode cX12_acts 20 = .ok (.aload_n 0, 1) := by decide +kernel
theorem dX12_acts_21 : decode cX12_acts 21 = .ok (.iload_n 3, 1) := by decide +kernel
theorem dX12_acts_22 : decode cX12_acts 22 = .ok (.invokevirtual 133, 3) := by decide +kernel
theorem dX12_acts_25 : decode cX12_acts 25 = .ok (.ifCond .ne 6, 3) := by decide +kernel
theorem dX12_acts_28 : decode cX12_acts 28 = .ok (.ldc 141, 2) := by decide +kernel
theorem dX12_acts_30 : decode cX12_acts 30 = .ok (.ireturn, 1) := by decide +kernel
theorem dX12_acts_31 : decode cX12_acts 31 = .ok (.aload_n 0, 1) := by decide +kernel
theorem dX12_acts_32 : decode cX12_acts 32 = .ok (.iload_n 1, 1) := by decide +kernel
theorem dX12_acts_33 : decode cX12_acts 33 = .ok (.invokevirtual 200, 3) := by decide +kernel
theorem dX12_acts_36 : decode cX12_acts 36 = .ok (.istore 4, 2) := by decide +kernel
theorem dX12_acts_38 : decode cX12_acts 38 = .ok (.iload 4, 2) := by decide +kernel
theorem dX12_acts_40 : decode cX12_acts 40 = .ok (.ifCond .ge 6, 3) := by decide +kernel
theorem dX12_acts_43 : decode cX12_acts 43 = .ok (.iload 4, 2) := by decide +kernel
theorem dX12_acts_45 : decode cX12_acts 45 = .ok (.ireturn, 1) := by decide +kernel
theorem dX12_acts_46 : decode cX12_acts 46 = .ok (.aload_n 0, 1) := by decide +kernel
theorem dX12_acts_47 : decode cX12_acts 47 = .ok (.iload_n 1, 1) := by decide +kernel
theorem dX12_acts_48 : decode cX12_acts 48 = .ok (.iload_n 2, 1) := by decide +kernel
theorem dX12_acts_49 : decode cX12_acts 49 = .ok (.invokevirtual 171, 3) := by decide +kernel
theorem dX12_acts_52 : decode cX12_acts 52 = .ok (.aload_n 0, 1) := by decide +kernel
theorem dX12_acts_53 : decode cX12_acts 53 = .ok (.aload_n 0, 1) := by decide +kernel
theorem dX12_acts_54 : decode cX12_acts 54 = .ok (.getfield 76, 3) := by decide +kernel
theorem dX12_acts_57 : decode cX12_acts 57 = .ok (.iload_n 3, 1) := by decide +kernel
theorem dX12_acts_58 : decode cX12_acts 58 = .ok (.invokevirtual 219, 3) := by decide +kernel
theorem dX12_acts_61 : decode cX12_acts 61 = .ok (.ireturn, 1) := by decide +kernel
set_option maxRecDepth 20000 in
theorem ggX12_sum_X12_isPlace : GoodIn wsX12_sum wsX12_isPlace := goodIn_r _ [7, 8, 9, 10, 6, 11] (by decide +kernel) (by decide +kernel)
set_option maxRecDepth 20000 in
theorem gX12_sum_X12_isPlace : GoodIn wsX12_sum (va_wsS RX12 181 yX12_isPlace wsX12_isPlace) := goodIn_app (goodIn_of _ (by decide +kernel)) ggX12_sum_X12_isPlace
set_option maxRecDepth 20000 in
theorem ggX12_sum_X12_isPolynomial : GoodIn wsX12_sum wsX12_isPolynomial := goodIn_r _ [15, 16, 17, 18, 6, 19, 9, 10, 11, 65, 66, 67, 68, 69, 70, 71, 72, 73, 74, 75, 76, 77, 78, 79, 80, 81, 82, 83, 84, 85, 86, 87, 88, 89, 90, 91, 92, 93] (by decide +kernel) (by decide +kernel)
set_option maxRecDepth 20000 in
theorem gX12_sum_X12_isPolynomial : GoodIn wsX12_sum (wsV RX12 216 RX12 yX12_isPolynomial wsX12_isPolynomial) := goodIn_app (goodIn_of _ (by decide +kernel)) ggX12_sum_X12_isPolynomial
set_option maxRecDepth 20000 in
theorem ggX12_sum_X12_look : GoodIn wsX12_sum wsX12_look := goodIn_r _ [23, 24, 25, 26, 27, 28, 6, 29, 30, 65, 66, 67, 68, 69, 70, 71, 72, 73, 74, 75, 76, 77, 78, 79, 80, 81, 82, 83, 84, 85, 86, 87, 88, 89, 90, 91, 92, 93] (by decide +kernel) (by decide +kernel)
set_option maxRecDepth 20000 in
theorem gX12_sum_X12_look : GoodIn wsX12_sum (wsV RX12 200 RX12 yX12_look wsX12_look) := goodIn_app (goodIn_of _ (by decide +kernel)) ggX12_sum_X12_look
set_option maxRecDepth 20000 in
theorem ggX12_sum_X12_act : GoodIn wsX12_sum wsX12_act := goodIn_r _ [34, 3, 35, 36, 25, 37, 38, 39, 40, 6, 41, 16, 42, 43, 44, 45, 46, 47, 48, 49, 50, 51, 52, 53, 54, 55, 56, 57, 58, 59, 60, 61, 65, 66, 67, 68, 69, 70, 71, 72, 73, 74, 75, 76, 77, 78, 79, 80, 81, 82, 83, 84, 85, 86, 87, 88, 89, 90, 91, 92, 93] (by decide +kernel) (by decide +kernel)
set_option maxRecDepth 20000 in
theorem gX12_sum_X12_act : GoodIn wsX12_sum (wsV RX12 171 RX12 yX12_act wsX12_act) := goodIn_app (goodIn_of _ (by decide +kernel)) ggX12_sum_X12_act
set_option maxRecDepth 20000 in
theorem ggX12_sum_X12_lengthOf : GoodIn wsX12_sum wsX12_lengthOf := goodIn_r _ [64] (by decide +kernel) (by decide +kernel)
set_option maxRecDepth 20000 in
theorem gX12_sum_X12_lengthOf : GoodIn wsX12_sum (va_wsS RX12 222 yX12_lengthOf wsX12_lengthOf) := goodIn_app (goodIn_of _ (by decide +kernel)) ggX12_sum_X12_lengthOf
theorem dX12_sum_0 : decode cX12_sum 0 = .ok (.aload_n 0, 1) := by decide +kernel
theorem dX12_sum_1 : decode cX12_sum 1 = .ok (.iconst 0, 1) := by decide +kernel
theorem dX12_sum_2 : decode cX12_sum 2 = .ok (.putfield 1, 3) := by decide +kernel
theorem dX12_sum_5 : decode cX12_sum 5 = .ok (.iload_n 1, 1) := by decide +kernel
theorem dX12_sum_6 : decode cX12_sum 6 = .ok (.invokestatic 181, 3) := by decide +kernel
theorem dX12_sum_9 : decode cX12_sum 9 = .ok (.ifCond .eq 16, 3) := by decide +kernel
theorem dX12_sum_12 : decode cX12_sum 12 = .ok (.aload_n 0, 1) := by decide +kernel
theorem dX12_sum_13 : decode cX12_sum 13 = .ok (.iload_n 2, 1) := by decide +kernel
theorem dX12_sum_14 : decode cX12_sum 14 = .ok (.invokevirtual 216, 3) := by decide +kernel
theorem dX12_sum_17 : decode cX12_sum 17 = .ok (.ifCond .eq 8, 3) := by decide +kernel
theorem dX12_sum_20 : decode cX12_sum 20 = .ok (.iload_n 3, 1) := by decide +kernel
theorem dX12_sum_21 : decode cX12_sum 21 = .ok (.iconst (-1), 1) := by decide +kernel
theorem dX12_sum_22 : decode cX12_sum 22 = .ok (.if_icmp .ge 6, 3) := by decide +kernel
theorem dX12_sum_25 : decode cX12_sum 25 = .ok (.ldc 141, 2) := by decide +kernel
theorem dX12_sum_27 : decode cX12_sum 27 = .ok (.ireturn, 1) := by decide +kernel
theorem dX12_sum_28 : decode cX12_sum 28 = .ok (.aload_n 0, 1) := by decide +kernel
theorem dX12_sum_29 : decode cX12_sum 29 = .ok (.iload_n 1, 1) := by decide +kernel
theorem dX12_sum_30 : decode cX12_sum 30 = .ok (.invokevirtual 200, 3) := by decide +kernel
theorem dX12_sum_33 : decode cX12_sum 33 = .ok (.istore 4, 2) := by decide +kernel
theorem dX12_sum_35 : decode cX12_sum 35 = .ok (.iload 4, 2) := by decide +kernel
theorem dX12_sum_37 : decode cX12_sum 37 = .ok (.ifCond .ge 6, 3) := by decide +kernel
theorem dX12_sum_40 : decode cX12_sum 40 = .ok (.iload 4, 2) := by decide +kernel
theorem dX12_sum_42 : decode cX12_sum 42 = .ok (.ireturn, 1) := by decide +kernel
theorem dX12_sum_43 : decode cX12_sum 43 = .ok (.aload_n 0, 1) := by decide +kernel
theorem dX12_sum_44 : decode cX12_sum 44 = .ok (.iload_n 1, 1) := by decide +kernel
theorem dX12_sum_45 : decode cX12_sum 45 = .ok (.iload_n 2, 1) := by decide +kernel
theorem dX12_sum_46 : decode cX12_sum 46 = .ok (.invokevirtual 171, 3) := by decide +kernel
theorem dX12_sum_49 : decode cX12_sum 49 = .ok (.iload_n 3, 1) := by decide +kernel
theorem dX12_sum_50 : decode cX12_sum 50 = .ok (.iconst (-1), 1) := by decide +kernel
theorem dX12_sum_51 : decode cX12_sum 51 = .ok (.if_icmp .ne 13, 3) := by decide +kernel
theorem dX12_sum_54 : decode cX12_sum 54 = .ok (.aload_n 0, 1) := by decide +kernel
theorem dX12_sum_55 : decode cX12_sum 55 = .ok (.getfield 76, 3) := by decide +kernel
theorem dX12_sum_58 : decode cX12_sum 58 = .ok (.invokestatic 222, 3) := by decide +kernel
theorem dX12_sum_61 : decode cX12_sum 61 = .ok (.goto 19, 3) := by decide +kernel
theorem dX12_sum_64 : decode cX12_sum 64 = .ok (.iload_n 3, 1) := by decide +kernel
theorem dX12_sum_65 : decode cX12_sum 65 = .ok (.bipush 23, 2) := by decide +kernel
theorem dX12_sum_67 : decode cX12_sum 67 = .ok (.if_icmp .le 7, 3) := by decide +kernel
theorem dX12_sum_70 : decode cX12_sum 70 = .ok (.iconst 0, 1) := by decide +kernel
theorem dX12_sum_71 : decode cX12_sum 71 = .ok (.goto 9, 3) := by decide +kernel
theorem dX12_sum_74 : decode cX12_sum 74 = .ok (.aload_n 0, 1) := by decide +kernel
theorem dX12_sum_75 : decode cX12_sum 75 = .ok (.getfield 76, 3) := by decide +kernel
theorem dX12_sum_78 : decode cX12_sum 78 = .ok (.iload_n 3, 1) := by decide +kernel
theorem dX12_sum_79 : decode cX12_sum 79 = .ok (.iaload, 1) := by decide +kernel
theorem dX12_sum_80 : decode cX12_sum 80 = .ok (.ireturn, 1) := by decide +kernel
set_option maxRecDepth 20000 in
theorem ggX12_order_X12_isPlace : GoodIn wsX12_order wsX12_isPlace := goodIn_r _ [6, 7, 8, 9, 5, 10] (by decide +kernel) (by decide +kernel)
set_option maxRecDepth 20000 in
theorem gX12_order_X12_isPlace : GoodIn wsX12_order (va_wsS RX12 181 yX12_isPlace wsX12_isPlace) := goodIn_app (goodIn_of _ (by decide +kernel)) ggX12_order_X12_isPlace
set_option maxRecDepth 20000 in
theorem ggX12_order_X12_isElement : GoodIn wsX12_order wsX12_isElement := goodIn_r _ [14, 15, 8, 9, 5, 10, 66, 67, 68, 69, 70, 71, 72, 73, 74, 75, 76, 77, 78, 79, 80, 81, 82, 83, 84, 85, 86, 87, 88, 89, 90, 91, 92, 93, 94] (by decide +kernel) (by decide +kernel)
set_option maxRecDepth 20000 in
theorem gX12_order_X12_isElement : GoodIn wsX12_order (wsV RX12 133 RX12 yX12_isElement wsX12_isElement) := goodIn_app (goodIn_of _ (by decide +kernel)) ggX12_order_X12_isElement
set_option maxRecDepth 20000 in
theorem ggX12_order_X12_look : GoodIn wsX12_order wsX12_look := goodIn_r _ [19, 20, 21, 22, 23, 24, 5, 25, 26, 66, 67, 68, 69, 70, 71, 72, 73, 74, 75, 76, 77, 78, 79, 80, 81, 82, 83, 84, 85, 86, 87, 88, 89, 90, 91, 92, 93, 94] (by decide +kernel) (by decide +kernel)
set_option maxRecDepth 20000 in
theorem gX12_order_X12_look : GoodIn wsX12_order (wsV RX12 200 RX12 yX12_look wsX12_look) := goodIn_app (goodIn_of _ (by decide +kernel)) ggX12_order_X12_look
set_option maxRecDepth 20000 in
theorem ggX12_order_X12_goOn : GoodIn wsX12_order wsX12_goOn := goodIn_r _ [30, 31, 32, 33, 34, 5, 35, 21, 36, 37, 38, 39, 40, 41, 42, 43, 15, 44, 45, 46, 47, 48, 49, 50, 51, 66, 67, 68, 69, 70, 71, 72, 73, 74, 75, 76, 77, 78, 79, 80, 81, 82, 83, 84, 85, 86, 87, 88, 89, 90, 91, 92, 93, 94] (by decide +kernel) (by decide +kernel)
set_option maxRecDepth 20000 in
theorem gX12_order_X12_goOn : GoodIn wsX12_order (wsV RX12 206 RX12 yX12_goOn wsX12_goOn) := goodIn_app (goodIn_of _ (by decide +kernel)) ggX12_order_X12_goOn
set_option maxRecDepth 20000 in
theorem ggX12_order_X12_leastOf : GoodIn wsX12_order wsX12_leastOf := goodIn_r _ [55, 56, 37, 57, 31, 58, 59, 60, 5, 61, 62, 63, 64, 65, 38, 39, 40, 41, 42, 43, 15, 44, 45, 46, 47, 66, 67, 68, 69, 70, 71, 72, 73, 74, 75, 76, 77, 78, 79, 80, 81, 82, 83, 84, 85, 86, 87, 88, 89, 90, 91, 92, 93, 94] (by decide +kernel) (by decide +kernel)
set_option maxRecDepth 20000 in
theorem gX12_order_X12_leastOf : GoodIn wsX12_order (wsV RX12 210 RX12 yX12_leastOf wsX12_leastOf) := goodIn_app (goodIn_of _ (by decide +kernel)) ggX12_order_X12_leastOf
theorem dX12_order_0 : decode cX12_order 0 = .ok (.aload_n 0, 1) := by decide +kernel
theorem dX12_order_1 : decode cX12_order 1 = .ok (.iconst 0, 1) := by decide +kernel
theorem dX12_order_2 : decode cX12_order 2 = .ok (.putfield 1, 3) := by decide +kernel
theorem dX12_order_5 : decode cX12_order 5 = .ok (.iload_n 1, 1) := by decide +kernel
theorem dX12_order_6 : decode cX12_order 6 = .ok (.invokestatic 181, 3) := by decide +kernel
theorem dX12_order_9 : decode cX12_order 9 = .ok (.ifCond .eq 11, 3) := by decide +kernel
theorem dX12_order_12 : decode cX12_order 12 = .ok (.aload_n 0, 1) := by decide +kernel
theorem dX12_order_13 : decode cX12_order 13 = .ok (.iload_n 2, 1) := by decide +kernel
theorem dX12_order_14 : decode cX12_order 14 = .ok (.invokevirtual 133, 3) := by decide +kernel
theorem dX12_order_17 : decode cX12_order 17 = .ok (.ifCond .ne 6, 3) := by decide +kernel
theorem dX12_order_20 : decode cX12_order 20 = .ok (.ldc 141, 2) := by decide +kernel
theorem dX12_order_22 : decode cX12_order 22 = .ok (.ireturn, 1) := by decide +kernel
theorem dX12_order_23 : decode cX12_order 23 = .ok (.aload_n 0, 1) := by decide +kernel
theorem dX12_order_24 : decode cX12_order 24 = .ok (.iload_n 1, 1) := by decide +kernel
theorem dX12_order_25 : decode cX12_order 25 = .ok (.invokevirtual 200, 3) := by decide +kernel
theorem dX12_order_28 : decode cX12_order 28 = .ok (.istore_n 3, 1) := by decide +kernel
theorem dX12_order_29 : decode cX12_order 29 = .ok (.iload_n 3, 1) := by decide +kernel
theorem dX12_order_30 : decode cX12_order 30 = .ok (.ifCond .ge 5, 3) := by decide +kernel
theorem dX12_order_33 : decode cX12_order 33 = .ok (.iload_n 3, 1) := by decide +kernel
theorem dX12_order_34 : decode cX12_order 34 = .ok (.ireturn, 1) := by decide +kernel
theorem dX12_order_35 : decode cX12_order 35 = .ok (.aload_n 0, 1) := by decide +kernel
theorem dX12_order_36 : decode cX12_order 36 = .ok (.iload_n 1, 1) := by decide +kernel
theorem dX12_order_37 : decode cX12_order 37 = .ok (.iconst 0, 1) := by decide +kernel
theorem dX12_order_38 : decode cX12_order 38 = .ok (.iload_n 2, 1) := by decide +kernel
theorem dX12_order_39 : decode cX12_order 39 = .ok (.invokevirtual 206, 3) := by decide +kernel
theorem dX12_order_42 : decode cX12_order 42 = .ok (.aload_n 0, 1) := by decide +kernel
theorem dX12_order_43 : decode cX12_order 43 = .ok (.iconst 1, 1) := by decide +kernel
theorem dX12_order_44 : decode cX12_order 44 = .ok (.invokevirtual 210, 3) := by decide +kernel
theorem dX12_order_47 : decode cX12_order 47 = .ok (.ireturn, 1) := by decide +kernel
set_option maxRecDepth 20000 in
theorem ggX12_kernel_X12_isPlace : GoodIn wsX12_kernel wsX12_isPlace := goodIn_r _ [9, 10, 11, 12, 8, 13] (by decide +kernel) (by decide +kernel)
set_option maxRecDepth 20000 in
theorem gX12_kernel_X12_isPlace : GoodIn wsX12_kernel (va_wsS RX12 181 yX12_isPlace wsX12_isPlace) := goodIn_app (goodIn_of _ (by decide +kernel)) ggX12_kernel_X12_isPlace
set_option maxRecDepth 20000 in
theorem ggX12_kernel_X12_isPolynomial : GoodIn wsX12_kernel wsX12_isPolynomial := goodIn_r _ [17, 18, 19, 20, 8, 21, 11, 12, 13, 67, 68, 69, 70, 71, 72, 73, 74, 75, 76, 77, 78, 79, 80, 81, 82, 83, 84, 85, 86, 87, 88, 89, 90, 91, 92, 93, 94, 95] (by decide +kernel) (by decide +kernel)
set_option maxRecDepth 20000 in
theorem gX12_kernel_X12_isPolynomial : GoodIn wsX12_kernel (wsV RX12 216 RX12 yX12_isPolynomial wsX12_isPolynomial) := goodIn_app (goodIn_of _ (by decide +kernel)) ggX12_kernel_X12_isPolynomial
set_option maxRecDepth 20000 in
theorem ggX12_kernel_X12_look : GoodIn wsX12_kernel wsX12_look := goodIn_r _ [25, 26, 27, 28, 29, 30, 8, 31, 32, 67, 68, 69, 70, 71, 72, 73, 74, 75, 76, 77, 78, 79, 80, 81, 82, 83, 84, 85, 86, 87, 88, 89, 90, 91, 92, 93, 94, 95] (by decide +kernel) (by decide +kernel)
set_option maxRecDepth 20000 in
theorem gX12_kernel_X12_look : GoodIn wsX12_kernel (wsV RX12 200 RX12 yX12_look wsX12_look) := goodIn_app (goodIn_of _ (by decide +kernel)) ggX12_kernel_X12_look
set_option maxRecDepth 20000 in
theorem ggX12_kernel_X12_act : GoodIn wsX12_kernel wsX12_act := goodIn_r _ [36, 4, 37, 38, 27, 39, 40, 41, 42, 8, 43, 18, 44, 45, 46, 47, 48, 49, 50, 51, 52, 53, 54, 3, 55, 56, 57, 58, 59, 60, 61, 62, 67, 68, 69, 70, 71, 72, 73, 74, 75, 76, 77, 78, 79, 80, 81, 82, 83, 84, 85, 86, 87, 88, 89, 90, 91, 92, 93, 94, 95] (by decide +kernel) (by decide +kernel)
set_option maxRecDepth 20000 in
theorem gX12_kernel_X12_act : GoodIn wsX12_kernel (wsV RX12 171 RX12 yX12_act wsX12_act) := goodIn_app (goodIn_of _ (by decide +kernel)) ggX12_kernel_X12_act
set_option maxRecDepth 20000 in
theorem ggX12_kernel_X12_done : GoodIn wsX12_kernel wsX12_done := goodIn_r _ [66, 18, 55, 56, 57, 8, 58, 53, 54, 3, 59, 60, 61, 62, 49, 50, 51, 52, 67, 68, 69, 70, 71, 72, 73, 74, 75, 76, 77, 78, 79, 80, 81, 82, 83, 84, 85, 86, 87, 88, 89, 90, 91, 92, 93, 94, 95] (by decide +kernel) (by decide +kernel)
set_option maxRecDepth 20000 in
theorem gX12_kernel_X12_done : GoodIn wsX12_kernel (wsV RX12 219 RX12 yX12_done wsX12_done) := goodIn_app (goodIn_of _ (by decide +kernel)) ggX12_kernel_X12_done
theorem dX12_kernel_0 : decode cX12_kernel 0 = .ok (.aload_n 0, 1) := by decide +kernel
theorem dX12_kernel_1 : decode cX12_kernel 1 = .ok (.iconst 0, 1) := by decide +kernel
theorem dX12_kernel_2 : decode cX12_kernel 2 = .ok (.putfield 1, 3) := by decide +kernel
theorem dX12_kernel_5 : decode cX12_kernel 5 = .ok (.iload_n 1, 1) := by decide +kernel
theorem dX12_kernel_6 : decode cX12_kernel 6 = .ok (.invokestatic 181, 3) := by decide +kernel
theorem dX12_kernel_9 : decode cX12_kernel 9 = .ok (.ifCond .eq 11, 3) := by decide +kernel
theorem dX12_kernel_12 : decode cX12_kernel 12 = .ok (.aload_n 0, 1) := by decide +kernel
theorem dX12_kernel_13 : decode cX12_kernel 13 = .ok (.iload_n 2, 1) := by decide +kernel
theorem dX12_kernel_14 : decode cX12_kernel 14 = .ok (.invokevirtual 216, 3) := by decide +kernel
theorem dX12_kernel_17 : decode cX12_kernel 17 = .ok (.ifCond .ne 6, 3) := by decide +kernel
theorem dX12_kernel_20 : decode cX12_kernel 20 = .ok (.ldc 141, 2) := by decide +kernel
theorem dX12_kernel_22 : decode cX12_kernel 22 = .ok (.ireturn, 1) := by decide +kernel
theorem dX12_kernel_23 : decode cX12_kernel 23 = .ok (.aload_n 0, 1) := by decide +kernel
theorem dX12_kernel_24 : decode cX12_kernel 24 = .ok (.iload_n 1, 1) := by decide +kernel
theorem dX12_kernel_25 : decode cX12_kernel 25 = .ok (.invokevirtual 200, 3) := by decide +kernel
theorem dX12_kernel_28 : decode cX12_kernel 28 = .ok (.istore 4, 2) := by decide +kernel
theorem dX12_kernel_30 : decode cX12_kernel 30 = .ok (.iload 4, 2) := by decide +kernel
theorem dX12_kernel_32 : decode cX12_kernel 32 = .ok (.ifCond .ge 6, 3) := by decide +kernel
theorem dX12_kernel_35 : decode cX12_kernel 35 = .ok (.iload 4, 2) := by decide +kernel
theorem dX12_kernel_37 : decode cX12_kernel 37 = .ok (.ireturn, 1) := by decide +kernel
theorem dX12_kernel_38 : decode cX12_kernel 38 = .ok (.aload_n 0, 1) := by decide +kernel
theorem dX12_kernel_39 : decode cX12_kernel 39 = .ok (.iload_n 1, 1) := by decide +kernel
theorem dX12_kernel_40 : decode cX12_kernel 40 = .ok (.iload_n 2, 1) := by decide +kernel
theorem dX12_kernel_41 : decode cX12_kernel 41 = .ok (.invokevirtual 171, 3) := by decide +kernel
theorem dX12_kernel_44 : decode cX12_kernel 44 = .ok (.iconst 0, 1) := by decide +kernel
theorem dX12_kernel_45 : decode cX12_kernel 45 = .ok (.istore 5, 2) := by decide +kernel
theorem dX12_kernel_47 : decode cX12_kernel 47 = .ok (.iconst 0, 1) := by decide +kernel
theorem dX12_kernel_48 : decode cX12_kernel 48 = .ok (.istore 6, 2) := by decide +kernel
theorem dX12_kernel_50 : decode cX12_kernel 50 = .ok (.iload 6, 2) := by decide +kernel
theorem dX12_kernel_52 : decode cX12_kernel 52 = .ok (.aload_n 0, 1) := by decide +kernel
theorem dX12_kernel_53 : decode cX12_kernel 53 = .ok (.getfield 109, 3) := by decide +kernel
theorem dX12_kernel_56 : decode cX12_kernel 56 = .ok (.if_icmp .ge 34, 3) := by decide +kernel
theorem dX12_kernel_59 : decode cX12_kernel 59 = .ok (.aload_n 0, 1) := by decide +kernel
theorem dX12_kernel_60 : decode cX12_kernel 60 = .ok (.aload_n 0, 1) := by decide +kernel
theorem dX12_kernel_61 : decode cX12_kernel 61 = .ok (.getfield 76, 3) := by decide +kernel
theorem dX12_kernel_64 : decode cX12_kernel 64 = .ok (.iload 6, 2) := by decide +kernel
theorem dX12_kernel_66 : decode cX12_kernel 66 = .ok (.invokevirtual 219, 3) := by decide +kernel
theorem dX12_kernel_69 : decode cX12_kernel 69 = .ok (.ifCond .ne 15, 3) := by decide +kernel
theorem dX12_kernel_72 : decode cX12_kernel 72 = .ok (.iload 5, 2) := by decide +kernel
theorem dX12_kernel_74 : decode cX12_kernel 74 = .ok (.iload_n 3, 1) := by decide +kernel
theorem dX12_kernel_75 : decode cX12_kernel 75 = .ok (.if_icmp .ne 6, 3) := by decide +kernel
theorem dX12_kernel_78 : decode cX12_kernel 78 = .ok (.iload 6, 2) := by decide +kernel
theorem dX12_kernel_80 : decode cX12_kernel 80 = .ok (.ireturn, 1) := by decide +kernel
theorem dX12_kernel_81 : decode cX12_kernel 81 = .ok (.iinc 5 1, 3) := by decide +kernel
theorem dX12_kernel_84 : decode cX12_kernel 84 = .ok (.iinc 6 1, 3) := by decide +kernel
theorem dX12_kernel_87 : decode cX12_kernel 87 = .ok (.goto (-37), 3) := by decide +kernel
theorem dX12_kernel_90 : decode cX12_kernel 90 = .ok (.iload_n 3, 1) := by decide +kernel
theorem dX12_kernel_91 : decode cX12_kernel 91 = .ok (.ldc 142, 2) := by decide +kernel
theorem dX12_kernel_93 : decode cX12_kernel 93 = .ok (.if_icmp .ne 8, 3) := by decide +kernel
theorem dX12_kernel_96 : decode cX12_kernel 96 = .ok (.iload 5, 2) := by decide +kernel
theorem dX12_kernel_98 : decode cX12_kernel 98 = .ok (.goto 5, 3) := by decide +kernel
theorem dX12_kernel_101 : decode cX12_kernel 101 = .ok (.ldc 142, 2) := by decide +kernel
theorem dX12_kernel_103 : decode cX12_kernel 103 = .ok (.ireturn, 1) := by decide +kernel
set_option maxRecDepth 20000 in
theorem ggX12_divide_X12_far : GoodIn wsX12_divide wsX12_far := goodIn_r _ [8, 9, 10, 11, 12, 13, 7, 14, 15, 16, 17, 34, 35, 36, 37, 38, 39, 40, 41, 42, 43, 44, 45, 46, 47, 48, 49, 50, 51, 52, 53, 54, 55, 56, 57, 58, 59, 60, 61, 62] (by decide +kernel) (by decide +kernel)
set_option maxRecDepth 20000 in
theorem gX12_divide_X12_far : GoodIn wsX12_divide (wsV RX12 159 RX12 yX12_far wsX12_far) := goodIn_app (goodIn_of _ (by decide +kernel)) ggX12_divide_X12_far
set_option maxRecDepth 20000 in
theorem ggX12_divide_X12_inverse : GoodIn wsX12_divide wsX12_inverse := goodIn_r _ [21, 15, 17, 16, 34, 35, 36, 37, 38, 39, 40, 41, 42, 43, 44, 45, 46, 47, 48, 49, 50, 51, 52, 53, 54, 55, 56, 57, 58, 59, 60, 61, 62] (by decide +kernel) (by decide +kernel)
set_option maxRecDepth 20000 in
theorem gX12_divide_X12_inverse : GoodIn wsX12_divide (wsV RX12 143 RX12 yX12_inverse wsX12_inverse) := goodIn_app (goodIn_of _ (by decide +kernel)) ggX12_divide_X12_inverse
set_option maxRecDepth 20000 in
theorem ggX12_divide_X12_times : GoodIn wsX12_divide wsX12_times := goodIn_r _ [25, 15, 16, 17, 34, 35, 36, 37, 38, 39, 40, 41, 42, 43, 44, 45, 46, 47, 48, 49, 50, 51, 52, 53, 54, 55, 56, 57, 58, 59, 60, 61, 62] (by decide +kernel) (by decide +kernel)
set_option maxRecDepth 20000 in
theorem gX12_divide_X12_times : GoodIn wsX12_divide (wsV RX12 119 RX12 yX12_times wsX12_times) := goodIn_app (goodIn_of _ (by decide +kernel)) ggX12_divide_X12_times
set_option maxRecDepth 20000 in
theorem ggX12_divide_X12_less : GoodIn wsX12_divide wsX12_less := goodIn_r _ [29, 10, 22, 23, 24, 7, 25, 15, 16, 17, 30, 31, 32, 33, 34, 35, 36, 37, 38, 39, 40, 41, 42, 43, 44, 45, 46, 47, 48, 49, 50, 51, 52, 53, 54, 55, 56, 57, 58, 59, 60, 61, 62] (by decide +kernel) (by decide +kernel)
set_option maxRecDepth 20000 in
theorem gX12_divide_X12_less : GoodIn wsX12_divide (wsV RX12 165 RX12 yX12_less wsX12_less) := goodIn_app (goodIn_of _ (by decide +kernel)) ggX12_divide_X12_less
theorem dX12_divide_0 : decode cX12_divide 0 = .ok (.iconst 0, 1) := by decide +kernel
theorem dX12_divide_1 : decode cX12_divide 1 = .ok (.istore_n 2, 1) := by decide +kernel
theorem dX12_divide_2 : decode cX12_divide 2 = .ok (.iload_n 2, 1) := by decide +kernel
theorem dX12_divide_3 : decode cX12_divide 3 = .ok (.bipush 24, 2) := by decide +kernel
theorem dX12_divide_5 : decode cX12_divide 5 = .ok (.if_icmp .ge 16, 3) := by decide +kernel
theorem dX12_divide_8 : decode cX12_divide 8 = .ok (.aload_n 0, 1) := by decide +kernel
theorem dX12_divide_9 : decode cX12_divide 9 = .ok (.getfield 82, 3) := by decide +kernel
theorem dX12_divide_12 : decode cX12_divide 12 = .ok (.iload_n 2, 1) := by decide +kernel
theorem dX12_divide_13 : decode cX12_divide 13 = .ok (.iconst 0, 1) := by decide +kernel
theorem dX12_divide_14 : decode cX12_divide 14 = .ok (.iastore, 1) := by decide +kernel
theorem dX12_divide_15 : decode cX12_divide 15 = .ok (.iinc 2 1, 3) := by decide +kernel
theorem dX12_divide_18 : decode cX12_divide 18 = .ok (.goto (-16), 3) := by decide +kernel
theorem dX12_divide_21 : decode cX12_divide 21 = .ok (.bipush 23, 2) := by decide +kernel
theorem dX12_divide_23 : decode cX12_divide 23 = .ok (.istore_n 2, 1) := by decide +kernel
theorem dX12_divide_24 : decode cX12_divide 24 = .ok (.iload_n 2, 1) := by decide +kernel
theorem dX12_divide_25 : decode cX12_divide 25 = .ok (.iload_n 1, 1) := by decide +kernel
theorem dX12_divide_26 : decode cX12_divide 26 = .ok (.if_icmp .lt 123, 3) := by decide +kernel
theorem dX12_divide_29 : decode cX12_divide 29 = .ok (.aload_n 0, 1) := by decide +kernel
theorem dX12_divide_30 : decode cX12_divide 30 = .ok (.getfield 76, 3) := by decide +kernel
theorem dX12_divide_33 : decode cX12_divide 33 = .ok (.iload_n 2, 1) := by decide +kernel
theorem dX12_divide_34 : decode cX12_divide 34 = .ok (.iaload, 1) := by decide +kernel
theorem dX12_divide_35 : decode cX12_divide 35 = .ok (.ifCond .ne 7, 3) := by decide +kernel
theorem dX12_divide_38 : decode cX12_divide 38 = .ok (.iconst 0, 1) := by decide +kernel
theorem dX12_divide_39 : decode cX12_divide 39 = .ok (.goto 30, 3) := by decide +kernel
theorem dX12_divide_42 : decode cX12_divide 42 = .ok (.aload_n 0, 1) := by decide +kernel
theorem dX12_divide_43 : decode cX12_divide 43 = .ok (.aload_n 0, 1) := by decide +kernel
theorem dX12_divide_44 : decode cX12_divide 44 = .ok (.getfield 76, 3) := by decide +kernel
theorem dX12_divide_47 : decode cX12_divide 47 = .ok (.iload_n 2, 1) := by decide +kernel
theorem dX12_divide_48 : decode cX12_divide 48 = .ok (.iaload, 1) := by decide +kernel
theorem dX12_divide_49 : decode cX12_divide 49 = .ok (.aload_n 0, 1) := by decide +kernel
theorem dX12_divide_50 : decode cX12_divide 50 = .ok (.aload_n 0, 1) := by decide +kernel
theorem dX12_divide_51 : decode cX12_divide 51 = .ok (.aload_n 0, 1) := by decide +kernel
theorem dX12_divide_52 : decode cX12_divide 52 = .ok (.getfield 91, 3) := by decide +kernel
theorem dX12_divide_55 : decode cX12_divide 55 = .ok (.iload_n 1, 1) := by decide +kernel
theorem dX12_divide_56 : decode cX12_divide 56 = .ok (.iaload, 1) := by decide +kernel
theorem dX12_divide_57 : decode cX12_divide 57 = .ok (.iload_n 2, 1) := by decide +kernel
theorem dX12_divide_58 : decode cX12_divide 58 = .ok (.iload_n 1, 1) := by decide +kernel
theorem dX12_divide_59 : decode cX12_divide 59 = .ok (.isub, 1) := by decide +kernel
theorem dX12_divide_60 : decode cX12_divide 60 = .ok (.invokevirtual 159, 3) := by decide +kernel
theorem dX12_divide_63 : decode cX12_divide 63 = .ok (.invokevirtual 143, 3) := by decide +kernel
theorem dX12_divide_66 : decode cX12_divide 66 = .ok (.invokevirtual 119, 3) := by decide +kernel
theorem dX12_divide_69 : decode cX12_divide 69 = .ok (.istore_n 3, 1) := by decide +kernel
theorem dX12_divide_70 : decode cX12_divide 70 = .ok (.aload_n 0, 1) := by decide +kernel
theorem dX12_divide_71 : decode cX12_divide 71 = .ok (.getfield 82, 3) := by decide +kernel
theorem dX12_divide_74 : decode cX12_divide 74 = .ok (.iload_n 2, 1) := by decide +kernel
theorem dX12_divide_75 : decode cX12_divide 75 = .ok (.iload_n 1, 1) := by decide +kernel
theorem dX12_divide_76 : decode cX12_divide 76 = .ok (.isub, 1) := by decide +kernel
theorem dX12_divide_77 : decode cX12_divide 77 = .ok (.iload_n 3, 1) := by decide +kernel
theorem dX12_divide_78 : decode cX12_divide 78 = .ok (.iastore, 1) := by decide +kernel
theorem dX12_divide_79 : decode cX12_divide 79 = .ok (.iconst 0, 1) := by decide +kernel
theorem dX12_divide_80 : decode cX12_divide 80 = .ok (.istore 4, 2) := by decide +kernel
theorem dX12_divide_82 : decode cX12_divide 82 = .ok (.iload 4, 2) := by decide +kernel
theorem dX12_divide_84 : decode cX12_divide 84 = .ok (.iload_n 1, 1) := by decide +kernel
theorem dX12_divide_85 : decode cX12_divide 85 = .ok (.if_icmp .gt 58, 3) := by decide +kernel
theorem dX12_divide_88 : decode cX12_divide 88 = .ok (.iload_n 3, 1) := by decide +kernel
theorem dX12_divide_89 : decode cX12_divide 89 = .ok (.ifCond .eq 54, 3) := by decide +kernel
theorem dX12_divide_92 : decode cX12_divide 92 = .ok (.aload_n 0, 1) := by decide +kernel
theorem dX12_divide_93 : decode cX12_divide 93 = .ok (.getfield 76, 3) := by decide +kernel
theorem dX12_divide_96 : decode cX12_divide 96 = .ok (.iload_n 2, 1) := by decide +kernel
theorem dX12_divide_97 : decode cX12_divide 97 = .ok (.iload_n 1, 1) := by decide +kernel
theorem dX12_divide_98 : decode cX12_divide 98 = .ok (.isub, 1) := by decide +kernel
theorem dX12_divide_99 : decode cX12_divide 99 = .ok (.iload 4, 2) := by decide +kernel
theorem dX12_divide_101 : decode cX12_divide 101 = .ok (.iadd, 1) := by decide +kernel
theorem dX12_divide_102 : decode cX12_divide 102 = .ok (.aload_n 0, 1) := by decide +kernel
theorem dX12_divide_103 : decode cX12_divide 103 = .ok (.aload_n 0, 1) := by decide +kernel
theorem dX12_divide_104 : decode cX12_divide 104 = .ok (.getfield 76, 3) := by decide +kernel
theorem dX12_divide_107 : decode cX12_divide 107 = .ok (.iload_n 2, 1) := by decide +kernel
theorem dX12_divide_108 : decode cX12_divide 108 = .ok (.iload_n 1, 1) := by decide +kernel
theorem dX12_divide_109 : decode cX12_divide 109 = .ok (.isub, 1) := by decide +kernel
theorem dX12_divide_110 : decode cX12_divide 110 = .ok (.iload 4, 2) := by decide +kernel
theorem dX12_divide_112 : decode cX12_divide 112 = .ok (.iadd, 1) := by decide +kernel
theorem dX12_divide_113 : decode cX12_divide 113 = .ok (.iaload, 1) := by decide +kernel
theorem dX12_divide_114 : decode cX12_divide 114 = .ok (.aload_n 0, 1) := by decide +kernel
theorem dX12_divide_115 : decode cX12_divide 115 = .ok (.iload_n 3, 1) := by decide +kernel
theorem dX12_divide_116 : decode cX12_divide 116 = .ok (.aload_n 0, 1) := by decide +kernel
theorem dX12_divide_117 : decode cX12_divide 117 = .ok (.aload_n 0, 1) := by decide +kernel
theorem dX12_divide_118 : decode cX12_divide 118 = .ok (.getfield 91, 3) := by decide +kernel
theorem dX12_divide_121 : decode cX12_divide 121 = .ok (.iload 4, 2) := by decide +kernel
theorem dX12_divide_123 : decode cX12_divide 123 = .ok (.iaload, 1) := by decide +kernel
theorem dX12_divide_124 : decode cX12_divide 124 = .ok (.iload_n 2, 1) := by decide +kernel
theorem dX12_divide_125 : decode cX12_divide 125 = .ok (.iload_n 1, 1) := by decide +kernel
theorem dX12_divide_126 : decode cX12_divide 126 = .ok (.isub, 1) := by decide +kernel
theorem dX12_divide_127 : decode cX12_divide 127 = .ok (.invokevirtual 159, 3) := by decide +kernel
theorem dX12_divide_130 : decode cX12_divide 130 = .ok (.invokevirtual 119, 3) := by decide +kernel
theorem dX12_divide_133 : decode cX12_divide 133 = .ok (.invokevirtual 165, 3) := by decide +kernel
theorem dX12_divide_136 : decode cX12_divide 136 = .ok (.iastore, 1) := by decide +kernel
theorem dX12_divide_137 : decode cX12_divide 137 = .ok (.iinc 4 1, 3) := by decide +kernel
theorem dX12_divide_140 : decode cX12_divide 140 = .ok (.goto (-58), 3) := by decide +kernel
theorem dX12_divide_143 : decode cX12_divide 143 = .ok (.iinc 2 (-1), 3) := by decide +kernel
theorem dX12_divide_146 : decode cX12_divide 146 = .ok (.goto (-122), 3) := by decide +kernel
theorem dX12_divide_149 : decode cX12_divide 149 = .ok (.return_, 1) := by decide +kernel
set_option maxRecDepth 20000 in
theorem ggX12_back_X12_lookMap : GoodIn wsX12_back wsX12_lookMap := goodIn_r _ [14, 15, 2, 16, 17, 18, 19, 20, 21, 22, 13, 23, 24, 25, 26, 27, 28, 29, 30, 31, 32, 33, 34, 35, 3, 36, 37, 38, 39, 40, 41, 90, 91, 92, 93, 94, 95, 96, 97, 98, 99, 100, 101, 102, 103, 104, 105, 106, 107, 108, 109, 110, 111, 112, 113, 114, 115, 116, 117, 118] (by decide +kernel) (by decide +kernel)
set_option maxRecDepth 20000 in
theorem gX12_back_X12_lookMap : GoodIn wsX12_back (wsV RX12 193 RX12 yX12_lookMap wsX12_lookMap) := goodIn_app (goodIn_of _ (by decide +kernel)) ggX12_back_X12_lookMap
set_option maxRecDepth 20000 in
theorem ggX12_back_X12_power : GoodIn wsX12_back wsX12_power := goodIn_r _ [44] (by decide +kernel) (by decide +kernel)
set_option maxRecDepth 20000 in
theorem gX12_back_X12_power : GoodIn wsX12_back (va_wsS RX12 14 yX12_power wsX12_power) := goodIn_app (goodIn_of _ (by decide +kernel)) ggX12_back_X12_power
set_option maxRecDepth 20000 in
theorem ggX12_back_X12_act : GoodIn wsX12_back wsX12_act := goodIn_r _ [48, 6, 49, 50, 16, 51, 52, 53, 54, 13, 55, 4, 56, 57, 58, 59, 60, 61, 62, 63, 64, 65, 66, 41, 67, 68, 69, 70, 71, 72, 73, 74, 90, 91, 92, 93, 94, 95, 96, 97, 98, 99, 100, 101, 102, 103, 104, 105, 106, 107, 108, 109, 110, 111, 112, 113, 114, 115, 116, 117, 118] (by decide +kernel) (by decide +kernel)
set_option maxRecDepth 20000 in
theorem gX12_back_X12_act : GoodIn wsX12_back (wsV RX12 171 RX12 yX12_act wsX12_act) := goodIn_app (goodIn_of _ (by decide +kernel)) ggX12_back_X12_act
set_option maxRecDepth 20000 in
theorem ggX12_back_X12_divide : GoodIn wsX12_back wsX12_divide := goodIn_r _ [78, 8, 6, 19, 56, 57, 58, 13, 59, 60, 4, 61, 62, 63, 64, 65, 66, 41, 79, 80, 81, 82, 67, 68, 69, 70, 83, 84, 85, 86, 71, 72, 73, 74, 90, 91, 92, 93, 94, 95, 96, 97, 98, 99, 100, 101, 102, 103, 104, 105, 106, 107, 108, 109, 110, 111, 112, 113, 114, 115, 116, 117, 118] (by decide +kernel) (by decide +kernel)
set_option maxRecDepth 20000 in
theorem gX12_back_X12_divide : GoodIn wsX12_back (wsV RX12 226 RX12 yX12_divide wsX12_divide) := goodIn_app (goodIn_of _ (by decide +kernel)) ggX12_back_X12_divide
set_option maxRecDepth 20000 in
theorem ggX12_back_X12_figures : GoodIn wsX12_back wsX12_figures := goodIn_r _ [55, 4, 90, 91, 92, 93, 94, 95, 96, 97, 98, 99, 100, 101, 102, 103, 104, 105, 106, 107, 108, 109, 110, 111, 112, 113, 114, 115, 116, 117, 118] (by decide +kernel) (by decide +kernel)
set_option maxRecDepth 20000 in
theorem gX12_back_X12_figures : GoodIn wsX12_back (wsV RX12 22 RX12 yX12_figures wsX12_figures) := goodIn_app (goodIn_of _ (by decide +kernel)) ggX12_back_X12_figures
set_option maxRecDepth 20000 in
theorem ggX12_back_X12_times : GoodIn wsX12_back wsX12_times := goodIn_r _ [70, 65, 66, 41, 90, 91, 92, 93, 94, 95, 96, 97, 98, 99, 100, 101, 102, 103, 104, 105, 106, 107, 108, 109, 110, 111, 112, 113, 114, 115, 116, 117, 118] (by decide +kernel) (by decide +kernel)
set_option maxRecDepth 20000 in
theorem gX12_back_X12_times : GoodIn wsX12_back (wsV RX12 119 RX12 yX12_times wsX12_times) := goodIn_app (goodIn_of _ (by decide +kernel)) ggX12_back_X12_times
set_option maxRecDepth 20000 in
theorem ggX12_back_X12_add : GoodIn wsX12_back wsX12_add := goodIn_r _ [74, 4, 90, 91, 92, 93, 94, 95, 96, 97, 98, 99, 100, 101, 102, 103, 104, 105, 106, 107, 108, 109, 110, 111, 112, 113, 114, 115, 116, 117, 118] (by decide +kernel) (by decide +kernel)
set_option maxRecDepth 20000 in
theorem gX12_back_X12_add : GoodIn wsX12_back (wsV RX12 122 RX12 yX12_add wsX12_add) := goodIn_app (goodIn_of _ (by decide +kernel)) ggX12_back_X12_add
set_option maxRecDepth 20000 in
theorem ggX12_back_X12_lengthOf : GoodIn wsX12_back wsX12_lengthOf := goodIn_r _ [89] (by decide +kernel) (by decide +kernel)
set_option maxRecDepth 20000 in
theorem gX12_back_X12_lengthOf : GoodIn wsX12_back (va_wsS RX12 222 yX12_lengthOf wsX12_lengthOf) := goodIn_app (goodIn_of _ (by decide +kernel)) ggX12_back_X12_lengthOf
theorem dX12_back_0 : decode cX12_back 0 = .ok (.aload_n 0, 1) := by decide +kernel
theorem dX12_back_1 : decode cX12_back 1 = .ok (.iconst 0, 1) := by decide +kernel
theorem dX12_back_2 : decode cX12_back 2 = .ok (.putfield 1, 3) := by decide +kernel
theorem dX12_back_5 : decode cX12_back 5 = .ok (.iload 5, 2) := by decide +kernel
theorem dX12_back_7 : decode cX12_back 7 = .ok (.bipush (-2), 2) := by decide +kernel
theorem dX12_back_9 : decode cX12_back 9 = .ok (.if_icmp .ge 6, 3) := by decide +kernel
theorem dX12_back_12 : decode cX12_back 12 = .ok (.ldc 141, 2) := by decide +kernel
theorem dX12_back_14 : decode cX12_back 14 = .ok (.ireturn, 1) := by decide +kernel
theorem dX12_back_15 : decode cX12_back 15 = .ok (.aload_n 0, 1) := by decide +kernel
theorem dX12_back_16 : decode cX12_back 16 = .ok (.iload_n 1, 1) := by decide +kernel
theorem dX12_back_17 : decode cX12_back 17 = .ok (.iload_n 2, 1) := by decide +kernel
theorem dX12_back_18 : decode cX12_back 18 = .ok (.iload_n 3, 1) := by decide +kernel
theorem dX12_back_19 : decode cX12_back 19 = .ok (.iload 4, 2) := by decide +kernel
theorem dX12_back_21 : decode cX12_back 21 = .ok (.invokevirtual 193, 3) := by decide +kernel
theorem dX12_back_24 : decode cX12_back 24 = .ok (.istore 6, 2) := by decide +kernel
theorem dX12_back_26 : decode cX12_back 26 = .ok (.iload 6, 2) := by decide +kernel
theorem dX12_back_28 : decode cX12_back 28 = .ok (.ifCond .ge 6, 3) := by decide +kernel
theorem dX12_back_31 : decode cX12_back 31 = .ok (.iload 6, 2) := by decide +kernel
theorem dX12_back_33 : decode cX12_back 33 = .ok (.ireturn, 1) := by decide +kernel
theorem dX12_back_34 : decode cX12_back 34 = .ok (.aload_n 0, 1) := by decide +kernel
theorem dX12_back_35 : decode cX12_back 35 = .ok (.iconst 0, 1) := by decide +kernel
theorem dX12_back_36 : decode cX12_back 36 = .ok (.putfield 7, 3) := by decide +kernel
theorem dX12_back_39 : decode cX12_back 39 = .ok (.iconst 0, 1) := by decide +kernel
theorem dX12_back_40 : decode cX12_back 40 = .ok (.istore 7, 2) := by decide +kernel
theorem dX12_back_42 : decode cX12_back 42 = .ok (.iload 7, 2) := by decide +kernel
theorem dX12_back_44 : decode cX12_back 44 = .ok (.iconst 5, 1) := by decide +kernel
theorem dX12_back_45 : decode cX12_back 45 = .ok (.if_icmp .ge 74, 3) := by decide +kernel
theorem dX12_back_48 : decode cX12_back 48 = .ok (.aload_n 0, 1) := by decide +kernel
theorem dX12_back_49 : decode cX12_back 49 = .ok (.iload_n 1, 1) := by decide +kernel
theorem dX12_back_50 : decode cX12_back 50 = .ok (.aload_n 0, 1) := by decide +kernel
theorem dX12_back_51 : decode cX12_back 51 = .ok (.getfield 11, 3) := by decide +kernel
theorem dX12_back_54 : decode cX12_back 54 = .ok (.iload 7, 2) := by decide +kernel
theorem dX12_back_56 : decode cX12_back 56 = .ok (.invokestatic 14, 3) := by decide +kernel
theorem dX12_back_59 : decode cX12_back 59 = .ok (.invokevirtual 171, 3) := by decide +kernel
theorem dX12_back_62 : decode cX12_back 62 = .ok (.aload_n 0, 1) := by decide +kernel
theorem dX12_back_63 : decode cX12_back 63 = .ok (.iload 4, 2) := by decide +kernel
theorem dX12_back_65 : decode cX12_back 65 = .ok (.invokevirtual 226, 3) := by decide +kernel
theorem dX12_back_68 : decode cX12_back 68 = .ok (.iconst 0, 1) := by decide +kernel
theorem dX12_back_69 : decode cX12_back 69 = .ok (.istore 8, 2) := by decide +kernel
theorem dX12_back_71 : decode cX12_back 71 = .ok (.iload 8, 2) := by decide +kernel
theorem dX12_back_73 : decode cX12_back 73 = .ok (.iconst 4, 1) := by decide +kernel
theorem dX12_back_74 : decode cX12_back 74 = .ok (.if_icmp .ge 39, 3) := by decide +kernel
theorem dX12_back_77 : decode cX12_back 77 = .ok (.aload_n 0, 1) := by decide +kernel
theorem dX12_back_78 : decode cX12_back 78 = .ok (.getfield 103, 3) := by decide +kernel
theorem dX12_back_81 : decode cX12_back 81 = .ok (.iconst 4, 1) := by decide +kernel
theorem dX12_back_82 : decode cX12_back 82 = .ok (.iload 7, 2) := by decide +kernel
theorem dX12_back_84 : decode cX12_back 84 = .ok (.imul, 1) := by decide +kernel
theorem dX12_back_85 : decode cX12_back 85 = .ok (.iload 8, 2) := by decide +kernel
theorem dX12_back_87 : decode cX12_back 87 = .ok (.iadd, 1) := by decide +kernel
theorem dX12_back_88 : decode cX12_back 88 = .ok (.iload 8, 2) := by decide +kernel
theorem dX12_back_90 : decode cX12_back 90 = .ok (.iload 4, 2) := by decide +kernel
theorem dX12_back_92 : decode cX12_back 92 = .ok (.if_icmp .ge 13, 3) := by decide +kernel
theorem dX12_back_95 : decode cX12_back 95 = .ok (.aload_n 0, 1) := by decide +kernel
theorem dX12_back_96 : decode cX12_back 96 = .ok (.getfield 76, 3) := by decide +kernel
theorem dX12_back_99 : decode cX12_back 99 = .ok (.iload 8, 2) := by decide +kernel
theorem dX12_back_101 : decode cX12_back 101 = .ok (.iaload, 1) := by decide +kernel
theorem dX12_back_102 : decode cX12_back 102 = .ok (.goto 4, 3) := by decide +kernel
theorem dX12_back_105 : decode cX12_back 105 = .ok (.iconst 0, 1) := by decide +kernel
theorem dX12_back_106 : decode cX12_back 106 = .ok (.iastore, 1) := by decide +kernel
theorem dX12_back_107 : decode cX12_back 107 = .ok (.iinc 8 1, 3) := by decide +kernel
theorem dX12_back_110 : decode cX12_back 110 = .ok (.goto (-39), 3) := by decide +kernel
theorem dX12_back_113 : decode cX12_back 113 = .ok (.iinc 7 1, 3) := by decide +kernel
theorem dX12_back_116 : decode cX12_back 116 = .ok (.goto (-74), 3) := by decide +kernel
theorem dX12_back_119 : decode cX12_back 119 = .ok (.iconst 1, 1) := by decide +kernel
theorem dX12_back_120 : decode cX12_back 120 = .ok (.istore 7, 2) := by decide +kernel
theorem dX12_back_122 : decode cX12_back 122 = .ok (.iload 7, 2) := by decide +kernel
theorem dX12_back_124 : decode cX12_back 124 = .ok (.iconst 5, 1) := by decide +kernel
theorem dX12_back_125 : decode cX12_back 125 = .ok (.if_icmp .ge 216, 3) := by decide +kernel
theorem dX12_back_128 : decode cX12_back 128 = .ok (.aload_n 0, 1) := by decide +kernel
theorem dX12_back_129 : decode cX12_back 129 = .ok (.getfield 11, 3) := by decide +kernel
theorem dX12_back_132 : decode cX12_back 132 = .ok (.iload 7, 2) := by decide +kernel
theorem dX12_back_134 : decode cX12_back 134 = .ok (.invokestatic 14, 3) := by decide +kernel
theorem dX12_back_137 : decode cX12_back 137 = .ok (.istore 8, 2) := by decide +kernel
theorem dX12_back_139 : decode cX12_back 139 = .ok (.iconst 0, 1) := by decide +kernel
theorem dX12_back_140 : decode cX12_back 140 = .ok (.istore 9, 2) := by decide +kernel
theorem dX12_back_142 : decode cX12_back 142 = .ok (.iload 9, 2) := by decide +kernel
theorem dX12_back_144 : decode cX12_back 144 = .ok (.iload 8, 2) := by decide +kernel
theorem dX12_back_146 : decode cX12_back 146 = .ok (.if_icmp .ge 189, 3) := by decide +kernel
theorem dX12_back_149 : decode cX12_back 149 = .ok (.aload_n 0, 1) := by decide +kernel
theorem dX12_back_150 : decode cX12_back 150 = .ok (.iload 9, 2) := by decide +kernel
theorem dX12_back_152 : decode cX12_back 152 = .ok (.aload_n 0, 1) := by decide +kernel
theorem dX12_back_153 : decode cX12_back 153 = .ok (.getfield 26, 3) := by decide +kernel
theorem dX12_back_156 : decode cX12_back 156 = .ok (.invokevirtual 22, 3) := by decide +kernel
theorem dX12_back_159 : decode cX12_back 159 = .ok (.istore 10, 2) := by decide +kernel
theorem dX12_back_161 : decode cX12_back 161 = .ok (.iconst 1, 1) := by decide +kernel
theorem dX12_back_162 : decode cX12_back 162 = .ok (.istore 11, 2) := by decide +kernel
theorem dX12_back_164 : decode cX12_back 164 = .ok (.iconst 0, 1) := by decide +kernel
theorem dX12_back_165 : decode cX12_back 165 = .ok (.istore 12, 2) := by decide +kernel
theorem dX12_back_167 : decode cX12_back 167 = .ok (.iload 12, 2) := by decide +kernel
theorem dX12_back_169 : decode cX12_back 169 = .ok (.iload 4, 2) := by decide +kernel
theorem dX12_back_171 : decode cX12_back 171 = .ok (.if_icmp .ge 87, 3) := by decide +kernel
theorem dX12_back_174 : decode cX12_back 174 = .ok (.iload 11, 2) := by decide +kernel
theorem dX12_back_176 : decode cX12_back 176 = .ok (.ifCond .eq 82, 3) := by decide +kernel
theorem dX12_back_179 : decode cX12_back 179 = .ok (.aload_n 0, 1) := by decide +kernel
theorem dX12_back_180 : decode cX12_back 180 = .ok (.getfield 103, 3) := by decide +kernel
theorem dX12_back_183 : decode cX12_back 183 = .ok (.iconst 4, 1) := by decide +kernel
theorem dX12_back_184 : decode cX12_back 184 = .ok (.iload 7, 2) := by decide +kernel
theorem dX12_back_186 : decode cX12_back 186 = .ok (.imul, 1) := by decide +kernel
theorem dX12_back_187 : decode cX12_back 187 = .ok (.iload 12, 2) := by decide +kernel
theorem dX12_back_189 : decode cX12_back 189 = .ok (.iadd, 1) := by decide +kernel
theorem dX12_back_190 : decode cX12_back 190 = .ok (.iaload, 1) := by decide +kernel
theorem dX12_back_191 : decode cX12_back 191 = .ok (.istore 13, 2) := by decide +kernel
theorem dX12_back_193 : decode cX12_back 193 = .ok (.iconst 0, 1) := by decide +kernel
theorem dX12_back_194 : decode cX12_back 194 = .ok (.istore 14, 2) := by decide +kernel
theorem dX12_back_196 : decode cX12_back 196 = .ok (.iload 14, 2) := by decide +kernel
theorem dX12_back_198 : decode cX12_back 198 = .ok (.iload 7, 2) := by decide +kernel
theorem dX12_back_200 : decode cX12_back 200 = .ok (.if_icmp .ge 40, 3) := by decide +kernel
theorem dX12_back_203 : decode cX12_back 203 = .ok (.aload_n 0, 1) := by decide +kernel
theorem dX12_back_204 : decode cX12_back 204 = .ok (.iload 13, 2) := by decide +kernel
theorem dX12_back_206 : decode cX12_back 206 = .ok (.aload_n 0, 1) := by decide +kernel
theorem dX12_back_207 : decode cX12_back 207 = .ok (.aload_n 0, 1) := by decide +kernel
theorem dX12_back_208 : decode cX12_back 208 = .ok (.getfield 26, 3) := by decide +kernel
theorem dX12_back_211 : decode cX12_back 211 = .ok (.iload 14, 2) := by decide +kernel
theorem dX12_back_213 : decode cX12_back 213 = .ok (.iaload, 1) := by decide +kernel
theorem dX12_back_214 : decode cX12_back 214 = .ok (.aload_n 0, 1) := by decide +kernel
theorem dX12_back_215 : decode cX12_back 215 = .ok (.getfield 103, 3) := by decide +kernel
theorem dX12_back_218 : decode cX12_back 218 = .ok (.iconst 4, 1) := by decide +kernel
theorem dX12_back_219 : decode cX12_back 219 = .ok (.iload 14, 2) := by decide +kernel
theorem dX12_back_221 : decode cX12_back 221 = .ok (.imul, 1) := by decide +kernel
theorem dX12_back_222 : decode cX12_back 222 = .ok (.iload 12, 2) := by decide +kernel
theorem dX12_back_224 : decode cX12_back 224 = .ok (.iadd, 1) := by decide +kernel
theorem dX12_back_225 : decode cX12_back 225 = .ok (.iaload, 1) := by decide +kernel
theorem dX12_back_226 : decode cX12_back 226 = .ok (.invokevirtual 119, 3) := by decide +kernel
theorem dX12_back_229 : decode cX12_back 229 = .ok (.invokevirtual 122, 3) := by decide +kernel
theorem dX12_back_232 : decode cX12_back 232 = .ok (.istore 13, 2) := by decide +kernel
theorem dX12_back_234 : decode cX12_back 234 = .ok (.iinc 14 1, 3) := by decide +kernel
theorem dX12_back_237 : decode cX12_back 237 = .ok (.goto (-41), 3) := by decide +kernel
theorem dX12_back_240 : decode cX12_back 240 = .ok (.iload 13, 2) := by decide +kernel
theorem dX12_back_242 : decode cX12_back 242 = .ok (.ifCond .ne 7, 3) := by decide +kernel
theorem dX12_back_245 : decode cX12_back 245 = .ok (.iconst 1, 1) := by decide +kernel
theorem dX12_back_246 : decode cX12_back 246 = .ok (.goto 4, 3) := by decide +kernel
theorem dX12_back_249 : decode cX12_back 249 = .ok (.iconst 0, 1) := by decide +kernel
theorem dX12_back_250 : decode cX12_back 250 = .ok (.istore 11, 2) := by decide +kernel
theorem dX12_back_252 : decode cX12_back 252 = .ok (.iinc 12 1, 3) := by decide +kernel
theorem dX12_back_255 : decode cX12_back 255 = .ok (.goto (-88), 3) := by decide +kernel
theorem dX12_back_258 : decode cX12_back 258 = .ok (.iload 11, 2) := by decide +kernel
theorem dX12_back_260 : decode cX12_back 260 = .ok (.ifCond .eq 69, 3) := by decide +kernel
theorem dX12_back_263 : decode cX12_back 263 = .ok (.aload_n 0, 1) := by decide +kernel
theorem dX12_back_264 : decode cX12_back 264 = .ok (.iload_n 1, 1) := by decide +kernel
theorem dX12_back_265 : decode cX12_back 265 = .ok (.iload 8, 2) := by decide +kernel
theorem dX12_back_267 : decode cX12_back 267 = .ok (.iload 9, 2) := by decide +kernel
theorem dX12_back_269 : decode cX12_back 269 = .ok (.iadd, 1) := by decide +kernel
theorem dX12_back_270 : decode cX12_back 270 = .ok (.invokevirtual 171, 3) := by decide +kernel
theorem dX12_back_273 : decode cX12_back 273 = .ok (.aload_n 0, 1) := by decide +kernel
theorem dX12_back_274 : decode cX12_back 274 = .ok (.iload 4, 2) := by decide +kernel
theorem dX12_back_276 : decode cX12_back 276 = .ok (.invokevirtual 226, 3) := by decide +kernel
theorem dX12_back_279 : decode cX12_back 279 = .ok (.iload 5, 2) := by decide +kernel
theorem dX12_back_281 : decode cX12_back 281 = .ok (.bipush (-2), 2) := by decide +kernel
theorem dX12_back_283 : decode cX12_back 283 = .ok (.if_icmp .ne 11, 3) := by decide +kernel
theorem dX12_back_286 : decode cX12_back 286 = .ok (.iload 8, 2) := by decide +kernel
theorem dX12_back_288 : decode cX12_back 288 = .ok (.iload 9, 2) := by decide +kernel
theorem dX12_back_290 : decode cX12_back 290 = .ok (.iadd, 1) := by decide +kernel
theorem dX12_back_291 : decode cX12_back 291 = .ok (.goto 37, 3) := by decide +kernel
theorem dX12_back_294 : decode cX12_back 294 = .ok (.iload 5, 2) := by decide +kernel
theorem dX12_back_296 : decode cX12_back 296 = .ok (.iconst (-1), 1) := by decide +kernel
theorem dX12_back_297 : decode cX12_back 297 = .ok (.if_icmp .ne 13, 3) := by decide +kernel
theorem dX12_back_300 : decode cX12_back 300 = .ok (.aload_n 0, 1) := by decide +kernel
theorem dX12_back_301 : decode cX12_back 301 = .ok (.getfield 82, 3) := by decide +kernel
theorem dX12_back_304 : decode cX12_back 304 = .ok (.invokestatic 222, 3) := by decide +kernel
theorem dX12_back_307 : decode cX12_back 307 = .ok (.goto 21, 3) := by decide +kernel
theorem dX12_back_310 : decode cX12_back 310 = .ok (.iload 5, 2) := by decide +kernel
theorem dX12_back_312 : decode cX12_back 312 = .ok (.bipush 23, 2) := by decide +kernel
theorem dX12_back_314 : decode cX12_back 314 = .ok (.if_icmp .le 7, 3) := by decide +kernel
theorem dX12_back_317 : decode cX12_back 317 = .ok (.iconst 0, 1) := by decide +kernel
theorem dX12_back_318 : decode cX12_back 318 = .ok (.goto 10, 3) := by decide +kernel
theorem dX12_back_321 : decode cX12_back 321 = .ok (.aload_n 0, 1) := by decide +kernel
theorem dX12_back_322 : decode cX12_back 322 = .ok (.getfield 82, 3) := by decide +kernel
theorem dX12_back_325 : decode cX12_back 325 = .ok (.iload 5, 2) := by decide +kernel
theorem dX12_back_327 : decode cX12_back 327 = .ok (.iaload, 1) := by decide +kernel
theorem dX12_back_328 : decode cX12_back 328 = .ok (.ireturn, 1) := by decide +kernel
theorem dX12_back_329 : decode cX12_back 329 = .ok (.iinc 9 1, 3) := by decide +kernel
theorem dX12_back_332 : decode cX12_back 332 = .ok (.goto (-190), 3) := by decide +kernel
theorem dX12_back_335 : decode cX12_back 335 = .ok (.iinc 7 1, 3) := by decide +kernel
theorem dX12_back_338 : decode cX12_back 338 = .ok (.goto (-216), 3) := by decide +kernel
theorem dX12_back_341 : decode cX12_back 341 = .ok (.ldc 142, 2) := by decide +kernel
theorem dX12_back_343 : decode cX12_back 343 = .ok (.ireturn, 1) := by decide +kernel
set_option maxRecDepth 20000 in
theorem ggX12_alike_X12_isPlace : GoodIn wsX12_alike wsX12_isPlace := goodIn_r _ [10, 11, 12, 13, 9, 14] (by decide +kernel) (by decide +kernel)
set_option maxRecDepth 20000 in
theorem gX12_alike_X12_isPlace : GoodIn wsX12_alike (va_wsS RX12 181 yX12_isPlace wsX12_isPlace) := goodIn_app (goodIn_of _ (by decide +kernel)) ggX12_alike_X12_isPlace
set_option maxRecDepth 20000 in
theorem ggX12_alike_X12_found : GoodIn wsX12_alike wsX12_found := goodIn_r _ [18, 3, 19, 38, 39, 40, 41, 42, 43, 44, 45, 46, 47, 48, 49, 50, 51, 52, 53, 54, 55, 56, 57, 58, 59, 60, 61, 62, 63, 64, 65, 66] (by decide +kernel) (by decide +kernel)
set_option maxRecDepth 20000 in
theorem gX12_alike_X12_found : GoodIn wsX12_alike (wsV RX12 154 RX12 yX12_found wsX12_found) := goodIn_app (goodIn_of _ (by decide +kernel)) ggX12_alike_X12_found
set_option maxRecDepth 20000 in
theorem ggX12_alike_X12_turned : GoodIn wsX12_alike wsX12_turned := goodIn_r _ [23, 6, 24, 25, 26, 9, 27, 28, 29, 30, 31, 32, 33, 5, 34, 35, 36, 37, 38, 39, 40, 41, 42, 43, 44, 45, 46, 47, 48, 49, 50, 51, 52, 53, 54, 55, 56, 57, 58, 59, 60, 61, 62, 63, 64, 65, 66] (by decide +kernel) (by decide +kernel)
set_option maxRecDepth 20000 in
theorem gX12_alike_X12_turned : GoodIn wsX12_alike (wsV RX12 187 RX12 yX12_turned wsX12_turned) := goodIn_app (goodIn_of _ (by decide +kernel)) ggX12_alike_X12_turned
theorem dX12_alike_0 : decode cX12_alike 0 = .ok (.aload_n 0, 1) := by decide +kernel
theorem dX12_alike_1 : decode cX12_alike 1 = .ok (.iconst 0, 1) := by decide +kernel
theorem dX12_alike_2 : decode cX12_alike 2 = .ok (.putfield 1, 3) := by decide +kernel
theorem dX12_alike_5 : decode cX12_alike 5 = .ok (.iload_n 1, 1) := by decide +kernel
theorem dX12_alike_6 : decode cX12_alike 6 = .ok (.invokestatic 181, 3) := by decide +kernel
theorem dX12_alike_9 : decode cX12_alike 9 = .ok (.ifCond .eq 10, 3) := by decide +kernel
theorem dX12_alike_12 : decode cX12_alike 12 = .ok (.iload_n 2, 1) := by decide +kernel
theorem dX12_alike_13 : decode cX12_alike 13 = .ok (.invokestatic 181, 3) := by decide +kernel
theorem dX12_alike_16 : decode cX12_alike 16 = .ok (.ifCond .ne 6, 3) := by decide +kernel
theorem dX12_alike_19 : decode cX12_alike 19 = .ok (.ldc 141, 2) := by decide +kernel
theorem dX12_alike_21 : decode cX12_alike 21 = .ok (.ireturn, 1) := by decide +kernel
theorem dX12_alike_22 : decode cX12_alike 22 = .ok (.aload_n 0, 1) := by decide +kernel
theorem dX12_alike_23 : decode cX12_alike 23 = .ok (.iconst 0, 1) := by decide +kernel
theorem dX12_alike_24 : decode cX12_alike 24 = .ok (.putfield 7, 3) := by decide +kernel
theorem dX12_alike_27 : decode cX12_alike 27 = .ok (.aload_n 0, 1) := by decide +kernel
theorem dX12_alike_28 : decode cX12_alike 28 = .ok (.getfield 70, 3) := by decide +kernel
theorem dX12_alike_31 : decode cX12_alike 31 = .ok (.iload_n 1, 1) := by decide +kernel
theorem dX12_alike_32 : decode cX12_alike 32 = .ok (.iaload, 1) := by decide +kernel
theorem dX12_alike_33 : decode cX12_alike 33 = .ok (.ifCond .eq 12, 3) := by decide +kernel
theorem dX12_alike_36 : decode cX12_alike 36 = .ok (.aload_n 0, 1) := by decide +kernel
theorem dX12_alike_37 : decode cX12_alike 37 = .ok (.getfield 70, 3) := by decide +kernel
theorem dX12_alike_40 : decode cX12_alike 40 = .ok (.iload_n 2, 1) := by decide +kernel
theorem dX12_alike_41 : decode cX12_alike 41 = .ok (.iaload, 1) := by decide +kernel
theorem dX12_alike_42 : decode cX12_alike 42 = .ok (.ifCond .ne 9, 3) := by decide +kernel
theorem dX12_alike_45 : decode cX12_alike 45 = .ok (.aload_n 0, 1) := by decide +kernel
theorem dX12_alike_46 : decode cX12_alike 46 = .ok (.iconst 1, 1) := by decide +kernel
theorem dX12_alike_47 : decode cX12_alike 47 = .ok (.invokevirtual 154, 3) := by decide +kernel
theorem dX12_alike_50 : decode cX12_alike 50 = .ok (.ireturn, 1) := by decide +kernel
theorem dX12_alike_51 : decode cX12_alike 51 = .ok (.iconst 0, 1) := by decide +kernel
theorem dX12_alike_52 : decode cX12_alike 52 = .ok (.istore_n 3, 1) := by decide +kernel
theorem dX12_alike_53 : decode cX12_alike 53 = .ok (.iconst 1, 1) := by decide +kernel
theorem dX12_alike_54 : decode cX12_alike 54 = .ok (.istore 4, 2) := by decide +kernel
theorem dX12_alike_56 : decode cX12_alike 56 = .ok (.iload 4, 2) := by decide +kernel
theorem dX12_alike_58 : decode cX12_alike 58 = .ok (.aload_n 0, 1) := by decide +kernel
theorem dX12_alike_59 : decode cX12_alike 59 = .ok (.getfield 109, 3) := by decide +kernel
theorem dX12_alike_62 : decode cX12_alike 62 = .ok (.if_icmp .ge 83, 3) := by decide +kernel
theorem dX12_alike_65 : decode cX12_alike 65 = .ok (.aload_n 0, 1) := by decide +kernel
theorem dX12_alike_66 : decode cX12_alike 66 = .ok (.getfield 70, 3) := by decide +kernel
theorem dX12_alike_69 : decode cX12_alike 69 = .ok (.iload_n 1, 1) := by decide +kernel
theorem dX12_alike_70 : decode cX12_alike 70 = .ok (.iaload, 1) := by decide +kernel
theorem dX12_alike_71 : decode cX12_alike 71 = .ok (.aload_n 0, 1) := by decide +kernel
theorem dX12_alike_72 : decode cX12_alike 72 = .ok (.getfield 70, 3) := by decide +kernel
theorem dX12_alike_75 : decode cX12_alike 75 = .ok (.iload_n 2, 1) := by decide +kernel
theorem dX12_alike_76 : decode cX12_alike 76 = .ok (.iaload, 1) := by decide +kernel
theorem dX12_alike_77 : decode cX12_alike 77 = .ok (.if_icmp .ne 68, 3) := by decide +kernel
theorem dX12_alike_80 : decode cX12_alike 80 = .ok (.iload_n 3, 1) := by decide +kernel
theorem dX12_alike_81 : decode cX12_alike 81 = .ok (.ifCond .ne 64, 3) := by decide +kernel
theorem dX12_alike_84 : decode cX12_alike 84 = .ok (.iconst 1, 1) := by decide +kernel
theorem dX12_alike_85 : decode cX12_alike 85 = .ok (.istore_n 3, 1) := by decide +kernel
theorem dX12_alike_86 : decode cX12_alike 86 = .ok (.iconst 0, 1) := by decide +kernel
theorem dX12_alike_87 : decode cX12_alike 87 = .ok (.istore 5, 2) := by decide +kernel
theorem dX12_alike_89 : decode cX12_alike 89 = .ok (.iload 5, 2) := by decide +kernel
theorem dX12_alike_91 : decode cX12_alike 91 = .ok (.aload_n 0, 1) := by decide +kernel
theorem dX12_alike_92 : decode cX12_alike 92 = .ok (.getfield 70, 3) := by decide +kernel
theorem dX12_alike_95 : decode cX12_alike 95 = .ok (.iload_n 1, 1) := by decide +kernel
