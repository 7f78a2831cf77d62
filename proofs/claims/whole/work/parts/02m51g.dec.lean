theorem dX12_alike_96 : decode cX12_alike 96 = .ok (.iaload, 1) := by decide +kernel
theorem dX12_alike_97 : decode cX12_alike 97 = .ok (.if_icmp .gt 42, 3) := by decide +kernel
theorem dX12_alike_100 : decode cX12_alike 100 = .ok (.iload_n 3, 1) := by decide +kernel
theorem dX12_alike_101 : decode cX12_alike 101 = .ok (.ifCond .eq 30, 3) := by decide +kernel
theorem dX12_alike_104 : decode cX12_alike 104 = .ok (.aload_n 0, 1) := by decide +kernel
theorem dX12_alike_105 : decode cX12_alike 105 = .ok (.iload_n 1, 1) := by decide +kernel
theorem dX12_alike_106 : decode cX12_alike 106 = .ok (.iload 5, 2) := by decide +kernel
theorem dX12_alike_108 : decode cX12_alike 108 = .ok (.iload 4, 2) := by decide +kernel
theorem dX12_alike_110 : decode cX12_alike 110 = .ok (.invokevirtual 187, 3) := by decide +kernel
theorem dX12_alike_113 : decode cX12_alike 113 = .ok (.aload_n 0, 1) := by decide +kernel
theorem dX12_alike_114 : decode cX12_alike 114 = .ok (.getfield 73, 3) := by decide +kernel
theorem dX12_alike_117 : decode cX12_alike 117 = .ok (.iconst 4, 1) := by decide +kernel
theorem dX12_alike_118 : decode cX12_alike 118 = .ok (.iload_n 2, 1) := by decide +kernel
theorem dX12_alike_119 : decode cX12_alike 119 = .ok (.imul, 1) := by decide +kernel
theorem dX12_alike_120 : decode cX12_alike 120 = .ok (.iload 5, 2) := by decide +kernel
theorem dX12_alike_122 : decode cX12_alike 122 = .ok (.iadd, 1) := by decide +kernel
theorem dX12_alike_123 : decode cX12_alike 123 = .ok (.iaload, 1) := by decide +kernel
theorem dX12_alike_124 : decode cX12_alike 124 = .ok (.if_icmp .ne 7, 3) := by decide +kernel
theorem dX12_alike_127 : decode cX12_alike 127 = .ok (.iconst 1, 1) := by decide +kernel
theorem dX12_alike_128 : decode cX12_alike 128 = .ok (.goto 4, 3) := by decide +kernel
theorem dX12_alike_131 : decode cX12_alike 131 = .ok (.iconst 0, 1) := by decide +kernel
theorem dX12_alike_132 : decode cX12_alike 132 = .ok (.istore_n 3, 1) := by decide +kernel
theorem dX12_alike_133 : decode cX12_alike 133 = .ok (.iinc 5 1, 3) := by decide +kernel
theorem dX12_alike_136 : decode cX12_alike 136 = .ok (.goto (-47), 3) := by decide +kernel
theorem dX12_alike_139 : decode cX12_alike 139 = .ok (.iinc 4 1, 3) := by decide +kernel
theorem dX12_alike_142 : decode cX12_alike 142 = .ok (.goto (-86), 3) := by decide +kernel
theorem dX12_alike_145 : decode cX12_alike 145 = .ok (.iload_n 3, 1) := by decide +kernel
theorem dX12_alike_146 : decode cX12_alike 146 = .ok (.ifCond .eq 7, 3) := by decide +kernel
theorem dX12_alike_149 : decode cX12_alike 149 = .ok (.iconst 1, 1) := by decide +kernel
theorem dX12_alike_150 : decode cX12_alike 150 = .ok (.goto 4, 3) := by decide +kernel
theorem dX12_alike_153 : decode cX12_alike 153 = .ok (.iconst 0, 1) := by decide +kernel
theorem dX12_alike_154 : decode cX12_alike 154 = .ok (.ireturn, 1) := by decide +kernel
set_option maxRecDepth 20000 in
theorem ggX12_stays_X12_isPlace : GoodIn wsX12_stays wsX12_isPlace := goodIn_r _ [9, 10, 11, 12, 8, 13] (by decide +kernel) (by decide +kernel)
set_option maxRecDepth 20000 in
theorem gX12_stays_X12_isPlace : GoodIn wsX12_stays (va_wsS RX12 181 yX12_isPlace wsX12_isPlace) := goodIn_app (goodIn_of _ (by decide +kernel)) ggX12_stays_X12_isPlace
set_option maxRecDepth 20000 in
theorem ggX12_stays_X12_look : GoodIn wsX12_stays wsX12_look := goodIn_r _ [17, 18, 4, 19, 20, 21, 8, 22, 23, 42, 43, 44, 45, 46, 47, 48, 49, 50, 51, 52, 53, 54, 55, 56, 57, 58, 59, 60, 61, 62, 63, 64, 65, 66, 67, 68, 69, 70] (by decide +kernel) (by decide +kernel)
set_option maxRecDepth 20000 in
theorem gX12_stays_X12_look : GoodIn wsX12_stays (wsV RX12 200 RX12 yX12_look wsX12_look) := goodIn_app (goodIn_of _ (by decide +kernel)) ggX12_stays_X12_look
set_option maxRecDepth 20000 in
theorem ggX12_stays_X12_turned : GoodIn wsX12_stays wsX12_turned := goodIn_r _ [27, 5, 28, 29, 30, 8, 31, 32, 33, 34, 35, 36, 37, 3, 38, 39, 40, 41, 42, 43, 44, 45, 46, 47, 48, 49, 50, 51, 52, 53, 54, 55, 56, 57, 58, 59, 60, 61, 62, 63, 64, 65, 66, 67, 68, 69, 70] (by decide +kernel) (by decide +kernel)
set_option maxRecDepth 20000 in
theorem gX12_stays_X12_turned : GoodIn wsX12_stays (wsV RX12 187 RX12 yX12_turned wsX12_turned) := goodIn_app (goodIn_of _ (by decide +kernel)) ggX12_stays_X12_turned
theorem dX12_stays_0 : decode cX12_stays 0 = .ok (.aload_n 0, 1) := by decide +kernel
theorem dX12_stays_1 : decode cX12_stays 1 = .ok (.iconst 0, 1) := by decide +kernel
theorem dX12_stays_2 : decode cX12_stays 2 = .ok (.putfield 1, 3) := by decide +kernel
theorem dX12_stays_5 : decode cX12_stays 5 = .ok (.iload_n 1, 1) := by decide +kernel
theorem dX12_stays_6 : decode cX12_stays 6 = .ok (.invokestatic 181, 3) := by decide +kernel
theorem dX12_stays_9 : decode cX12_stays 9 = .ok (.ifCond .ne 6, 3) := by decide +kernel
theorem dX12_stays_12 : decode cX12_stays 12 = .ok (.ldc 141, 2) := by decide +kernel
theorem dX12_stays_14 : decode cX12_stays 14 = .ok (.ireturn, 1) := by decide +kernel
theorem dX12_stays_15 : decode cX12_stays 15 = .ok (.aload_n 0, 1) := by decide +kernel
theorem dX12_stays_16 : decode cX12_stays 16 = .ok (.iload_n 1, 1) := by decide +kernel
theorem dX12_stays_17 : decode cX12_stays 17 = .ok (.invokevirtual 200, 3) := by decide +kernel
theorem dX12_stays_20 : decode cX12_stays 20 = .ok (.istore_n 2, 1) := by decide +kernel
theorem dX12_stays_21 : decode cX12_stays 21 = .ok (.iload_n 2, 1) := by decide +kernel
theorem dX12_stays_22 : decode cX12_stays 22 = .ok (.ifCond .ge 5, 3) := by decide +kernel
theorem dX12_stays_25 : decode cX12_stays 25 = .ok (.iload_n 2, 1) := by decide +kernel
theorem dX12_stays_26 : decode cX12_stays 26 = .ok (.ireturn, 1) := by decide +kernel
theorem dX12_stays_27 : decode cX12_stays 27 = .ok (.iconst 0, 1) := by decide +kernel
theorem dX12_stays_28 : decode cX12_stays 28 = .ok (.istore_n 3, 1) := by decide +kernel
theorem dX12_stays_29 : decode cX12_stays 29 = .ok (.iconst 1, 1) := by decide +kernel
theorem dX12_stays_30 : decode cX12_stays 30 = .ok (.istore 4, 2) := by decide +kernel
theorem dX12_stays_32 : decode cX12_stays 32 = .ok (.iload 4, 2) := by decide +kernel
theorem dX12_stays_34 : decode cX12_stays 34 = .ok (.aload_n 0, 1) := by decide +kernel
theorem dX12_stays_35 : decode cX12_stays 35 = .ok (.getfield 109, 3) := by decide +kernel
theorem dX12_stays_38 : decode cX12_stays 38 = .ok (.if_icmp .ge 80, 3) := by decide +kernel
theorem dX12_stays_41 : decode cX12_stays 41 = .ok (.iconst 1, 1) := by decide +kernel
theorem dX12_stays_42 : decode cX12_stays 42 = .ok (.istore 5, 2) := by decide +kernel
theorem dX12_stays_44 : decode cX12_stays 44 = .ok (.iconst 0, 1) := by decide +kernel
theorem dX12_stays_45 : decode cX12_stays 45 = .ok (.istore 6, 2) := by decide +kernel
theorem dX12_stays_47 : decode cX12_stays 47 = .ok (.iload 6, 2) := by decide +kernel
theorem dX12_stays_49 : decode cX12_stays 49 = .ok (.aload_n 0, 1) := by decide +kernel
theorem dX12_stays_50 : decode cX12_stays 50 = .ok (.getfield 70, 3) := by decide +kernel
theorem dX12_stays_53 : decode cX12_stays 53 = .ok (.iload_n 1, 1) := by decide +kernel
theorem dX12_stays_54 : decode cX12_stays 54 = .ok (.iaload, 1) := by decide +kernel
theorem dX12_stays_55 : decode cX12_stays 55 = .ok (.if_icmp .gt 44, 3) := by decide +kernel
theorem dX12_stays_58 : decode cX12_stays 58 = .ok (.iload 5, 2) := by decide +kernel
theorem dX12_stays_60 : decode cX12_stays 60 = .ok (.ifCond .eq 30, 3) := by decide +kernel
theorem dX12_stays_63 : decode cX12_stays 63 = .ok (.aload_n 0, 1) := by decide +kernel
theorem dX12_stays_64 : decode cX12_stays 64 = .ok (.iload_n 1, 1) := by decide +kernel
theorem dX12_stays_65 : decode cX12_stays 65 = .ok (.iload 6, 2) := by decide +kernel
theorem dX12_stays_67 : decode cX12_stays 67 = .ok (.iload 4, 2) := by decide +kernel
theorem dX12_stays_69 : decode cX12_stays 69 = .ok (.invokevirtual 187, 3) := by decide +kernel
theorem dX12_stays_72 : decode cX12_stays 72 = .ok (.aload_n 0, 1) := by decide +kernel
theorem dX12_stays_73 : decode cX12_stays 73 = .ok (.getfield 73, 3) := by decide +kernel
theorem dX12_stays_76 : decode cX12_stays 76 = .ok (.iconst 4, 1) := by decide +kernel
theorem dX12_stays_77 : decode cX12_stays 77 = .ok (.iload_n 1, 1) := by decide +kernel
theorem dX12_stays_78 : decode cX12_stays 78 = .ok (.imul, 1) := by decide +kernel
theorem dX12_stays_79 : decode cX12_stays 79 = .ok (.iload 6, 2) := by decide +kernel
theorem dX12_stays_81 : decode cX12_stays 81 = .ok (.iadd, 1) := by decide +kernel
theorem dX12_stays_82 : decode cX12_stays 82 = .ok (.iaload, 1) := by decide +kernel
theorem dX12_stays_83 : decode cX12_stays 83 = .ok (.if_icmp .ne 7, 3) := by decide +kernel
theorem dX12_stays_86 : decode cX12_stays 86 = .ok (.iconst 1, 1) := by decide +kernel
theorem dX12_stays_87 : decode cX12_stays 87 = .ok (.goto 4, 3) := by decide +kernel
theorem dX12_stays_90 : decode cX12_stays 90 = .ok (.iconst 0, 1) := by decide +kernel
theorem dX12_stays_91 : decode cX12_stays 91 = .ok (.istore 5, 2) := by decide +kernel
theorem dX12_stays_93 : decode cX12_stays 93 = .ok (.iinc 6 1, 3) := by decide +kernel
theorem dX12_stays_96 : decode cX12_stays 96 = .ok (.goto (-49), 3) := by decide +kernel
theorem dX12_stays_99 : decode cX12_stays 99 = .ok (.iload_n 3, 1) := by decide +kernel
theorem dX12_stays_100 : decode cX12_stays 100 = .ok (.iload 5, 2) := by decide +kernel
theorem dX12_stays_102 : decode cX12_stays 102 = .ok (.ifCond .eq 7, 3) := by decide +kernel
theorem dX12_stays_105 : decode cX12_stays 105 = .ok (.iconst 1, 1) := by decide +kernel
theorem dX12_stays_106 : decode cX12_stays 106 = .ok (.goto 4, 3) := by decide +kernel
theorem dX12_stays_109 : decode cX12_stays 109 = .ok (.iconst 0, 1) := by decide +kernel
theorem dX12_stays_110 : decode cX12_stays 110 = .ok (.iadd, 1) := by decide +kernel
theorem dX12_stays_111 : decode cX12_stays 111 = .ok (.istore_n 3, 1) := by decide +kernel
theorem dX12_stays_112 : decode cX12_stays 112 = .ok (.iinc 4 1, 3) := by decide +kernel
theorem dX12_stays_115 : decode cX12_stays 115 = .ok (.goto (-83), 3) := by decide +kernel
theorem dX12_stays_118 : decode cX12_stays 118 = .ok (.iload_n 3, 1) := by decide +kernel
theorem dX12_stays_119 : decode cX12_stays 119 = .ok (.ireturn, 1) := by decide +kernel
set_option maxRecDepth 20000 in
theorem ggX12_kind_X12_isPlace : GoodIn wsX12_kind wsX12_isPlace := goodIn_r _ [6, 7, 8, 9, 5, 10] (by decide +kernel) (by decide +kernel)
set_option maxRecDepth 20000 in
theorem gX12_kind_X12_isPlace : GoodIn wsX12_kind (va_wsS RX12 181 yX12_isPlace wsX12_isPlace) := goodIn_app (goodIn_of _ (by decide +kernel)) ggX12_kind_X12_isPlace
set_option maxRecDepth 20000 in
theorem ggX12_kind_X12_look : GoodIn wsX12_kind wsX12_look := goodIn_r _ [14, 15, 16, 17, 18, 19, 5, 20, 21, 80, 81, 82, 83, 84, 85, 86, 87, 88, 89, 90, 91, 92, 93, 94, 95, 96, 97, 98, 99, 100, 101, 102, 103, 104, 105, 106, 107, 108] (by decide +kernel) (by decide +kernel)
set_option maxRecDepth 20000 in
theorem gX12_kind_X12_look : GoodIn wsX12_kind (wsV RX12 200 RX12 yX12_look wsX12_look) := goodIn_app (goodIn_of _ (by decide +kernel)) ggX12_kind_X12_look
set_option maxRecDepth 20000 in
theorem ggX12_kind_X12_kindOf : GoodIn wsX12_kind wsX12_kindOf := goodIn_r _ [25, 16, 26, 27, 28, 5, 29, 30, 31, 32, 33, 34, 35, 36, 37, 38, 39, 40, 41, 42, 43, 44, 45, 46, 47, 48, 49, 50, 51, 52, 53, 54, 55, 56, 57, 58, 59, 60, 61, 62, 63, 64, 65, 66, 67, 68, 69, 70, 71, 72, 73, 74, 75, 76, 77, 78, 79, 80, 81, 82, 83, 84, 85, 86, 87, 88, 89, 90, 91, 92, 93, 94, 95, 96, 97, 98, 99, 100, 101, 102, 103, 104, 105, 106, 107, 108] (by decide +kernel) (by decide +kernel)
set_option maxRecDepth 20000 in
theorem gX12_kind_X12_kindOf : GoodIn wsX12_kind (wsV RX12 178 RX12 yX12_kindOf wsX12_kindOf) := goodIn_app (goodIn_of _ (by decide +kernel)) ggX12_kind_X12_kindOf
theorem dX12_kind_0 : decode cX12_kind 0 = .ok (.aload_n 0, 1) := by decide +kernel
theorem dX12_kind_1 : decode cX12_kind 1 = .ok (.iconst 0, 1) := by decide +kernel
theorem dX12_kind_2 : decode cX12_kind 2 = .ok (.putfield 1, 3) := by decide +kernel
theorem dX12_kind_5 : decode cX12_kind 5 = .ok (.iload_n 1, 1) := by decide +kernel
theorem dX12_kind_6 : decode cX12_kind 6 = .ok (.invokestatic 181, 3) := by decide +kernel
theorem dX12_kind_9 : decode cX12_kind 9 = .ok (.ifCond .ne 6, 3) := by decide +kernel
theorem dX12_kind_12 : decode cX12_kind 12 = .ok (.ldc 141, 2) := by decide +kernel
theorem dX12_kind_14 : decode cX12_kind 14 = .ok (.ireturn, 1) := by decide +kernel
theorem dX12_kind_15 : decode cX12_kind 15 = .ok (.aload_n 0, 1) := by decide +kernel
theorem dX12_kind_16 : decode cX12_kind 16 = .ok (.iload_n 1, 1) := by decide +kernel
theorem dX12_kind_17 : decode cX12_kind 17 = .ok (.invokevirtual 200, 3) := by decide +kernel
theorem dX12_kind_20 : decode cX12_kind 20 = .ok (.istore_n 2, 1) := by decide +kernel
theorem dX12_kind_21 : decode cX12_kind 21 = .ok (.iload_n 2, 1) := by decide +kernel
theorem dX12_kind_22 : decode cX12_kind 22 = .ok (.ifCond .ge 7, 3) := by decide +kernel
theorem dX12_kind_25 : decode cX12_kind 25 = .ok (.iload_n 2, 1) := by decide +kernel
theorem dX12_kind_26 : decode cX12_kind 26 = .ok (.goto 8, 3) := by decide +kernel
theorem dX12_kind_29 : decode cX12_kind 29 = .ok (.aload_n 0, 1) := by decide +kernel
theorem dX12_kind_30 : decode cX12_kind 30 = .ok (.iload_n 1, 1) := by decide +kernel
theorem dX12_kind_31 : decode cX12_kind 31 = .ok (.invokevirtual 178, 3) := by decide +kernel
theorem dX12_kind_34 : decode cX12_kind 34 = .ok (.ireturn, 1) := by decide +kernel
set_option maxRecDepth 20000 in
theorem ggX12_is_X12_isPlace : GoodIn wsX12_is wsX12_isPlace := goodIn_r _ [8, 9, 10, 11, 7, 12] (by decide +kernel) (by decide +kernel)
set_option maxRecDepth 20000 in
theorem gX12_is_X12_isPlace : GoodIn wsX12_is (va_wsS RX12 181 yX12_isPlace wsX12_isPlace) := goodIn_app (goodIn_of _ (by decide +kernel)) ggX12_is_X12_isPlace
set_option maxRecDepth 20000 in
theorem ggX12_is_X12_in : GoodIn wsX12_is wsX12_in := goodIn_r _ [12] (by decide +kernel) (by decide +kernel)
set_option maxRecDepth 20000 in
theorem gX12_is_X12_in : GoodIn wsX12_is (va_wsS RX12 129 yX12_in wsX12_in) := goodIn_app (goodIn_of _ (by decide +kernel)) ggX12_is_X12_in
set_option maxRecDepth 20000 in
theorem ggX12_is_X12_kindOf : GoodIn wsX12_is wsX12_kindOf := goodIn_r _ [16, 4, 17, 18, 19, 7, 20, 21, 22, 23, 24, 25, 26, 27, 28, 29, 30, 31, 32, 33, 34, 35, 36, 37, 38, 39, 40, 41, 42, 43, 44, 45, 46, 47, 48, 49, 50, 51, 52, 53, 54, 55, 56, 57, 58, 59, 60, 61, 62, 63, 64, 65, 66, 67, 68, 69, 70, 74, 75, 76, 77, 78, 79, 80, 81, 82, 83, 84, 85, 86, 87, 88, 89, 90, 91, 92, 93, 94, 95, 96, 97, 98, 99, 100, 101, 102] (by decide +kernel) (by decide +kernel)
set_option maxRecDepth 20000 in
theorem gX12_is_X12_kindOf : GoodIn wsX12_is (wsV RX12 178 RX12 yX12_kindOf wsX12_kindOf) := goodIn_app (goodIn_of _ (by decide +kernel)) ggX12_is_X12_kindOf
set_option maxRecDepth 20000 in
theorem ggX12_is_X12_isOf : GoodIn wsX12_is wsX12_isOf := goodIn_r _ [73] (by decide +kernel) (by decide +kernel)
set_option maxRecDepth 20000 in
theorem gX12_is_X12_isOf : GoodIn wsX12_is (va_wsS RX12 230 yX12_isOf wsX12_isOf) := goodIn_app (goodIn_of _ (by decide +kernel)) ggX12_is_X12_isOf
theorem dX12_is_0 : decode cX12_is 0 = .ok (.aload_n 0, 1) := by decide +kernel
theorem dX12_is_1 : decode cX12_is 1 = .ok (.iconst 0, 1) := by decide +kernel
theorem dX12_is_2 : decode cX12_is 2 = .ok (.putfield 1, 3) := by decide +kernel
theorem dX12_is_5 : decode cX12_is 5 = .ok (.iload_n 1, 1) := by decide +kernel
theorem dX12_is_6 : decode cX12_is 6 = .ok (.invokestatic 181, 3) := by decide +kernel
theorem dX12_is_9 : decode cX12_is 9 = .ok (.ifCond .eq 15, 3) := by decide +kernel
theorem dX12_is_12 : decode cX12_is 12 = .ok (.iload_n 2, 1) := by decide +kernel
theorem dX12_is_13 : decode cX12_is 13 = .ok (.i2l, 1) := by decide +kernel
theorem dX12_is_14 : decode cX12_is 14 = .ok (.lconst 0, 1) := by decide +kernel
theorem dX12_is_15 : decode cX12_is 15 = .ok (.ldc2_w 191, 3) := by decide +kernel
theorem dX12_is_18 : decode cX12_is 18 = .ok (.invokestatic 129, 3) := by decide +kernel
theorem dX12_is_21 : decode cX12_is 21 = .ok (.ifCond .ne 8, 3) := by decide +kernel
theorem dX12_is_24 : decode cX12_is 24 = .ok (.ldc 141, 2) := by decide +kernel
theorem dX12_is_26 : decode cX12_is 26 = .ok (.goto 29, 3) := by decide +kernel
theorem dX12_is_29 : decode cX12_is 29 = .ok (.aload_n 0, 1) := by decide +kernel
theorem dX12_is_30 : decode cX12_is 30 = .ok (.getfield 70, 3) := by decide +kernel
theorem dX12_is_33 : decode cX12_is 33 = .ok (.iload_n 1, 1) := by decide +kernel
theorem dX12_is_34 : decode cX12_is 34 = .ok (.iaload, 1) := by decide +kernel
theorem dX12_is_35 : decode cX12_is 35 = .ok (.ifCond .le 19, 3) := by decide +kernel
theorem dX12_is_38 : decode cX12_is 38 = .ok (.aload_n 0, 1) := by decide +kernel
theorem dX12_is_39 : decode cX12_is 39 = .ok (.iload_n 1, 1) := by decide +kernel
theorem dX12_is_40 : decode cX12_is 40 = .ok (.invokevirtual 178, 3) := by decide +kernel
theorem dX12_is_43 : decode cX12_is 43 = .ok (.iload_n 2, 1) := by decide +kernel
theorem dX12_is_44 : decode cX12_is 44 = .ok (.invokestatic 230, 3) := by decide +kernel
theorem dX12_is_47 : decode cX12_is 47 = .ok (.ifCond .eq 7, 3) := by decide +kernel
theorem dX12_is_50 : decode cX12_is 50 = .ok (.iconst 1, 1) := by decide +kernel
theorem dX12_is_51 : decode cX12_is 51 = .ok (.goto 4, 3) := by decide +kernel
theorem dX12_is_54 : decode cX12_is 54 = .ok (.iconst 0, 1) := by decide +kernel
theorem dX12_is_55 : decode cX12_is 55 = .ok (.ireturn, 1) := by decide +kernel
set_option maxRecDepth 20000 in
theorem ggX12_as_X12_isPlace : GoodIn wsX12_as wsX12_isPlace := goodIn_r _ [8, 9, 10, 11, 7, 12] (by decide +kernel) (by decide +kernel)
set_option maxRecDepth 20000 in
theorem gX12_as_X12_isPlace : GoodIn wsX12_as (va_wsS RX12 181 yX12_isPlace wsX12_isPlace) := goodIn_app (goodIn_of _ (by decide +kernel)) ggX12_as_X12_isPlace
set_option maxRecDepth 20000 in
theorem ggX12_as_X12_in : GoodIn wsX12_as wsX12_in := goodIn_r _ [12] (by decide +kernel) (by decide +kernel)
set_option maxRecDepth 20000 in
theorem gX12_as_X12_in : GoodIn wsX12_as (va_wsS RX12 129 yX12_in wsX12_in) := goodIn_app (goodIn_of _ (by decide +kernel)) ggX12_as_X12_in
set_option maxRecDepth 20000 in
theorem ggX12_as_X12_look : GoodIn wsX12_as wsX12_look := goodIn_r _ [16, 17, 4, 18, 19, 20, 7, 21, 22, 84, 85, 86, 87, 88, 89, 90, 91, 92, 93, 94, 95, 96, 97, 98, 99, 100, 101, 102, 103, 104, 105, 106, 107, 108, 109, 110, 111, 112] (by decide +kernel) (by decide +kernel)
set_option maxRecDepth 20000 in
theorem gX12_as_X12_look : GoodIn wsX12_as (wsV RX12 200 RX12 yX12_look wsX12_look) := goodIn_app (goodIn_of _ (by decide +kernel)) ggX12_as_X12_look
set_option maxRecDepth 20000 in
theorem ggX12_as_X12_kindOf : GoodIn wsX12_as wsX12_kindOf := goodIn_r _ [26, 4, 27, 28, 29, 7, 30, 31, 32, 33, 34, 35, 36, 37, 38, 39, 40, 41, 42, 43, 44, 45, 46, 47, 48, 49, 50, 51, 52, 53, 54, 55, 56, 57, 58, 59, 60, 61, 62, 63, 64, 65, 66, 67, 68, 69, 70, 71, 72, 73, 74, 75, 76, 77, 78, 79, 80, 84, 85, 86, 87, 88, 89, 90, 91, 92, 93, 94, 95, 96, 97, 98, 99, 100, 101, 102, 103, 104, 105, 106, 107, 108, 109, 110, 111, 112] (by decide +kernel) (by decide +kernel)
set_option maxRecDepth 20000 in
theorem gX12_as_X12_kindOf : GoodIn wsX12_as (wsV RX12 178 RX12 yX12_kindOf wsX12_kindOf) := goodIn_app (goodIn_of _ (by decide +kernel)) ggX12_as_X12_kindOf
set_option maxRecDepth 20000 in
theorem ggX12_as_X12_isOf : GoodIn wsX12_as wsX12_isOf := goodIn_r _ [83] (by decide +kernel) (by decide +kernel)
set_option maxRecDepth 20000 in
theorem gX12_as_X12_isOf : GoodIn wsX12_as (va_wsS RX12 230 yX12_isOf wsX12_isOf) := goodIn_app (goodIn_of _ (by decide +kernel)) ggX12_as_X12_isOf
set_option maxRecDepth 20000 in
theorem ggX12_as_X12_found : GoodIn wsX12_as wsX12_found := goodIn_r _ [21, 17, 22, 84, 85, 86, 87, 88, 89, 90, 91, 92, 93, 94, 95, 96, 97, 98, 99, 100, 101, 102, 103, 104, 105, 106, 107, 108, 109, 110, 111, 112] (by decide +kernel) (by decide +kernel)
set_option maxRecDepth 20000 in
theorem gX12_as_X12_found : GoodIn wsX12_as (wsV RX12 154 RX12 yX12_found wsX12_found) := goodIn_app (goodIn_of _ (by decide +kernel)) ggX12_as_X12_found
theorem dX12_as_0 : decode cX12_as 0 = .ok (.aload_n 0, 1) := by decide +kernel
theorem dX12_as_1 : decode cX12_as 1 = .ok (.iconst 0, 1) := by decide +kernel
theorem dX12_as_2 : decode cX12_as 2 = .ok (.putfield 1, 3) := by decide +kernel
theorem dX12_as_5 : decode cX12_as 5 = .ok (.iload_n 1, 1) := by decide +kernel
theorem dX12_as_6 : decode cX12_as 6 = .ok (.invokestatic 181, 3) := by decide +kernel
theorem dX12_as_9 : decode cX12_as 9 = .ok (.ifCond .eq 15, 3) := by decide +kernel
theorem dX12_as_12 : decode cX12_as 12 = .ok (.iload_n 2, 1) := by decide +kernel
theorem dX12_as_13 : decode cX12_as 13 = .ok (.i2l, 1) := by decide +kernel
theorem dX12_as_14 : decode cX12_as 14 = .ok (.lconst 0, 1) := by decide +kernel
theorem dX12_as_15 : decode cX12_as 15 = .ok (.ldc2_w 191, 3) := by decide +kernel
theorem dX12_as_18 : decode cX12_as 18 = .ok (.invokestatic 129, 3) := by decide +kernel
theorem dX12_as_21 : decode cX12_as 21 = .ok (.ifCond .ne 6, 3) := by decide +kernel
theorem dX12_as_24 : decode cX12_as 24 = .ok (.ldc 141, 2) := by decide +kernel
theorem dX12_as_26 : decode cX12_as 26 = .ok (.ireturn, 1) := by decide +kernel
theorem dX12_as_27 : decode cX12_as 27 = .ok (.aload_n 0, 1) := by decide +kernel
theorem dX12_as_28 : decode cX12_as 28 = .ok (.iload_n 1, 1) := by decide +kernel
theorem dX12_as_29 : decode cX12_as 29 = .ok (.invokevirtual 200, 3) := by decide +kernel
theorem dX12_as_32 : decode cX12_as 32 = .ok (.istore_n 3, 1) := by decide +kernel
theorem dX12_as_33 : decode cX12_as 33 = .ok (.iload_n 3, 1) := by decide +kernel
theorem dX12_as_34 : decode cX12_as 34 = .ok (.ifCond .ge 7, 3) := by decide +kernel
theorem dX12_as_37 : decode cX12_as 37 = .ok (.iload_n 3, 1) := by decide +kernel
theorem dX12_as_38 : decode cX12_as 38 = .ok (.goto 29, 3) := by decide +kernel
theorem dX12_as_41 : decode cX12_as 41 = .ok (.aload_n 0, 1) := by decide +kernel
theorem dX12_as_42 : decode cX12_as 42 = .ok (.iload_n 1, 1) := by decide +kernel
theorem dX12_as_43 : decode cX12_as 43 = .ok (.invokevirtual 178, 3) := by decide +kernel
theorem dX12_as_46 : decode cX12_as 46 = .ok (.iload_n 2, 1) := by decide +kernel
theorem dX12_as_47 : decode cX12_as 47 = .ok (.invokestatic 230, 3) := by decide +kernel
theorem dX12_as_50 : decode cX12_as 50 = .ok (.ifCond .eq 12, 3) := by decide +kernel
theorem dX12_as_53 : decode cX12_as 53 = .ok (.aload_n 0, 1) := by decide +kernel
theorem dX12_as_54 : decode cX12_as 54 = .ok (.getfield 70, 3) := by decide +kernel
theorem dX12_as_57 : decode cX12_as 57 = .ok (.iload_n 1, 1) := by decide +kernel
theorem dX12_as_58 : decode cX12_as 58 = .ok (.iaload, 1) := by decide +kernel
theorem dX12_as_59 : decode cX12_as 59 = .ok (.goto 8, 3) := by decide +kernel
theorem dX12_as_62 : decode cX12_as 62 = .ok (.aload_n 0, 1) := by decide +kernel
theorem dX12_as_63 : decode cX12_as 63 = .ok (.iconst 3, 1) := by decide +kernel
theorem dX12_as_64 : decode cX12_as 64 = .ok (.invokevirtual 154, 3) := by decide +kernel
theorem dX12_as_67 : decode cX12_as 67 = .ok (.ireturn, 1) := by decide +kernel
theorem dX12_began_0 : decode cX12_began 0 = .ok (.aload_n 0, 1) := by decide +kernel
theorem dX12_began_1 : decode cX12_began 1 = .ok (.getfield 233, 3) := by decide +kernel
theorem dX12_began_4 : decode cX12_began 4 = .ok (.bipush 16, 2) := by decide +kernel
theorem dX12_began_6 : decode cX12_began 6 = .ok (.if_icmp .ge 23, 3) := by decide +kernel
theorem dX12_began_9 : decode cX12_began 9 = .ok (.aload_n 0, 1) := by decide +kernel
theorem dX12_began_10 : decode cX12_began 10 = .ok (.getfield 106, 3) := by decide +kernel
theorem dX12_began_13 : decode cX12_began 13 = .ok (.aload_n 0, 1) := by decide +kernel
theorem dX12_began_14 : decode cX12_began 14 = .ok (.getfield 233, 3) := by decide +kernel
theorem dX12_began_17 : decode cX12_began 17 = .ok (.iload_n 1, 1) := by decide +kernel
theorem dX12_began_18 : decode cX12_began 18 = .ok (.iastore, 1) := by decide +kernel
theorem dX12_began_19 : decode cX12_began 19 = .ok (.aload_n 0, 1) := by decide +kernel
theorem dX12_began_20 : decode cX12_began 20 = .ok (.dup, 1) := by decide +kernel
theorem dX12_began_21 : decode cX12_began 21 = .ok (.getfield 233, 3) := by decide +kernel
theorem dX12_began_24 : decode cX12_began 24 = .ok (.iconst 1, 1) := by decide +kernel
theorem dX12_began_25 : decode cX12_began 25 = .ok (.iadd, 1) := by decide +kernel
theorem dX12_began_26 : decode cX12_began 26 = .ok (.putfield 233, 3) := by decide +kernel
theorem dX12_began_29 : decode cX12_began 29 = .ok (.return_, 1) := by decide +kernel
set_option maxRecDepth 20000 in
theorem ggX12_sized_X12_began : GoodIn wsX12_sized wsX12_began := goodIn_r _ [7, 8, 9, 13, 14, 15, 16, 17, 18, 19, 20, 21, 22, 23, 24, 25, 26, 27, 28, 29, 30, 31, 32, 33, 34, 35, 36, 37, 38, 39, 40, 41] (by decide +kernel) (by decide +kernel)
set_option maxRecDepth 20000 in
theorem gX12_sized_X12_began : GoodIn wsX12_sized (wsV RX12 236 RX12 yX12_began wsX12_began) := goodIn_app (goodIn_of _ (by decide +kernel)) ggX12_sized_X12_began
set_option maxRecDepth 20000 in
theorem ggX12_sized_X12_isOf : GoodIn wsX12_sized wsX12_isOf := goodIn_r _ [12] (by decide +kernel) (by decide +kernel)
set_option maxRecDepth 20000 in
theorem gX12_sized_X12_isOf : GoodIn wsX12_sized (va_wsS RX12 230 yX12_isOf wsX12_isOf) := goodIn_app (goodIn_of _ (by decide +kernel)) ggX12_sized_X12_isOf
theorem dX12_sized_0 : decode cX12_sized 0 = .ok (.iload_n 2, 1) := by decide +kernel
theorem dX12_sized_1 : decode cX12_sized 1 = .ok (.iconst 4, 1) := by decide +kernel
theorem dX12_sized_2 : decode cX12_sized 2 = .ok (.if_icmp .ne 37, 3) := by decide +kernel
theorem dX12_sized_5 : decode cX12_sized 5 = .ok (.aload_n 0, 1) := by decide +kernel
theorem dX12_sized_6 : decode cX12_sized 6 = .ok (.bipush 13, 2) := by decide +kernel
theorem dX12_sized_8 : decode cX12_sized 8 = .ok (.invokevirtual 236, 3) := by decide +kernel
theorem dX12_sized_11 : decode cX12_sized 11 = .ok (.aload_n 0, 1) := by decide +kernel
theorem dX12_sized_12 : decode cX12_sized 12 = .ok (.bipush 10, 2) := by decide +kernel
theorem dX12_sized_14 : decode cX12_sized 14 = .ok (.invokevirtual 236, 3) := by decide +kernel
theorem dX12_sized_17 : decode cX12_sized 17 = .ok (.aload_n 0, 1) := by decide +kernel
theorem dX12_sized_18 : decode cX12_sized 18 = .ok (.bipush 20, 2) := by decide +kernel
theorem dX12_sized_20 : decode cX12_sized 20 = .ok (.invokevirtual 236, 3) := by decide +kernel
theorem dX12_sized_23 : decode cX12_sized 23 = .ok (.aload_n 0, 1) := by decide +kernel
theorem dX12_sized_24 : decode cX12_sized 24 = .ok (.getfield 70, 3) := by decide +kernel
theorem dX12_sized_27 : decode cX12_sized 27 = .ok (.iload_n 1, 1) := by decide +kernel
theorem dX12_sized_28 : decode cX12_sized 28 = .ok (.iaload, 1) := by decide +kernel
theorem dX12_sized_29 : decode cX12_sized 29 = .ok (.aload_n 0, 1) := by decide +kernel
theorem dX12_sized_30 : decode cX12_sized 30 = .ok (.getfield 73, 3) := by decide +kernel
theorem dX12_sized_33 : decode cX12_sized 33 = .ok (.iconst 4, 1) := by decide +kernel
theorem dX12_sized_34 : decode cX12_sized 34 = .ok (.iload_n 1, 1) := by decide +kernel
theorem dX12_sized_35 : decode cX12_sized 35 = .ok (.imul, 1) := by decide +kernel
theorem dX12_sized_36 : decode cX12_sized 36 = .ok (.iaload, 1) := by decide +kernel
theorem dX12_sized_37 : decode cX12_sized 37 = .ok (.iadd, 1) := by decide +kernel
theorem dX12_sized_38 : decode cX12_sized 38 = .ok (.ireturn, 1) := by decide +kernel
theorem dX12_sized_39 : decode cX12_sized 39 = .ok (.iload_n 2, 1) := by decide +kernel
theorem dX12_sized_40 : decode cX12_sized 40 = .ok (.iconst 3, 1) := by decide +kernel
theorem dX12_sized_41 : decode cX12_sized 41 = .ok (.if_icmp .ne 9, 3) := by decide +kernel
theorem dX12_sized_44 : decode cX12_sized 44 = .ok (.aload_n 0, 1) := by decide +kernel
theorem dX12_sized_45 : decode cX12_sized 45 = .ok (.bipush 12, 2) := by decide +kernel
theorem dX12_sized_47 : decode cX12_sized 47 = .ok (.invokevirtual 236, 3) := by decide +kernel
theorem dX12_sized_50 : decode cX12_sized 50 = .ok (.iload_n 2, 1) := by decide +kernel
theorem dX12_sized_51 : decode cX12_sized 51 = .ok (.iconst 2, 1) := by decide +kernel
theorem dX12_sized_52 : decode cX12_sized 52 = .ok (.invokestatic 230, 3) := by decide +kernel
theorem dX12_sized_55 : decode cX12_sized 55 = .ok (.ifCond .eq 9, 3) := by decide +kernel
theorem dX12_sized_58 : decode cX12_sized 58 = .ok (.aload_n 0, 1) := by decide +kernel
theorem dX12_sized_59 : decode cX12_sized 59 = .ok (.bipush 11, 2) := by decide +kernel
theorem dX12_sized_61 : decode cX12_sized 61 = .ok (.invokevirtual 236, 3) := by decide +kernel
theorem dX12_sized_64 : decode cX12_sized 64 = .ok (.aload_n 0, 1) := by decide +kernel
theorem dX12_sized_65 : decode cX12_sized 65 = .ok (.bipush 10, 2) := by decide +kernel
theorem dX12_sized_67 : decode cX12_sized 67 = .ok (.invokevirtual 236, 3) := by decide +kernel
theorem dX12_sized_70 : decode cX12_sized 70 = .ok (.aload_n 0, 1) := by decide +kernel
theorem dX12_sized_71 : decode cX12_sized 71 = .ok (.getfield 70, 3) := by decide +kernel
theorem dX12_sized_74 : decode cX12_sized 74 = .ok (.iload_n 1, 1) := by decide +kernel
theorem dX12_sized_75 : decode cX12_sized 75 = .ok (.iaload, 1) := by decide +kernel
theorem dX12_sized_76 : decode cX12_sized 76 = .ok (.iload_n 2, 1) := by decide +kernel
theorem dX12_sized_77 : decode cX12_sized 77 = .ok (.iconst 2, 1) := by decide +kernel
theorem dX12_sized_78 : decode cX12_sized 78 = .ok (.invokestatic 230, 3) := by decide +kernel
theorem dX12_sized_81 : decode cX12_sized 81 = .ok (.ifCond .eq 8, 3) := by decide +kernel
theorem dX12_sized_84 : decode cX12_sized 84 = .ok (.bipush 10, 2) := by decide +kernel
theorem dX12_sized_86 : decode cX12_sized 86 = .ok (.goto 4, 3) := by decide +kernel
theorem dX12_sized_89 : decode cX12_sized 89 = .ok (.iconst 0, 1) := by decide +kernel
theorem dX12_sized_90 : decode cX12_sized 90 = .ok (.iadd, 1) := by decide +kernel
theorem dX12_sized_91 : decode cX12_sized 91 = .ok (.istore_n 3, 1) := by decide +kernel
theorem dX12_sized_92 : decode cX12_sized 92 = .ok (.iload_n 2, 1) := by decide +kernel
theorem dX12_sized_93 : decode cX12_sized 93 = .ok (.iconst 3, 1) := by decide +kernel
theorem dX12_sized_94 : decode cX12_sized 94 = .ok (.if_icmp .ne 9, 3) := by decide +kernel
theorem dX12_sized_97 : decode cX12_sized 97 = .ok (.iconst 2, 1) := by decide +kernel
theorem dX12_sized_98 : decode cX12_sized 98 = .ok (.iload_n 3, 1) := by decide +kernel
theorem dX12_sized_99 : decode cX12_sized 99 = .ok (.imul, 1) := by decide +kernel
theorem dX12_sized_100 : decode cX12_sized 100 = .ok (.goto 4, 3) := by decide +kernel
theorem dX12_sized_103 : decode cX12_sized 103 = .ok (.iload_n 3, 1) := by decide +kernel
theorem dX12_sized_104 : decode cX12_sized 104 = .ok (.ireturn, 1) := by decide +kernel
set_option maxRecDepth 20000 in
theorem ggX12_signed_X12_began : GoodIn wsX12_signed wsX12_began := goodIn_r _ [6, 7, 8, 41, 42, 43, 44, 45, 46, 47, 48, 49, 50, 51, 52, 53, 54, 55, 56, 57, 58, 59, 60, 61, 62, 63, 64, 65, 66, 67, 68, 69] (by decide +kernel) (by decide +kernel)
set_option maxRecDepth 20000 in
theorem gX12_signed_X12_began : GoodIn wsX12_signed (wsV RX12 236 RX12 yX12_began wsX12_began) := goodIn_app (goodIn_of _ (by decide +kernel)) ggX12_signed_X12_began
set_option maxRecDepth 20000 in
theorem ggX12_signed_X12_sized : GoodIn wsX12_signed wsX12_sized := goodIn_r _ [12, 13, 1, 2, 3, 4, 5, 6, 7, 8, 14, 15, 16, 41, 42, 43, 44, 45, 46, 47, 48, 49, 50, 51, 52, 53, 54, 55, 56, 57, 58, 59, 60, 61, 62, 63, 64, 65, 66, 67, 68, 69] (by decide +kernel) (by decide +kernel)
set_option maxRecDepth 20000 in
theorem gX12_signed_X12_sized : GoodIn wsX12_signed (wsV RX12 239 RX12 yX12_sized wsX12_sized) := goodIn_app (goodIn_of _ (by decide +kernel)) ggX12_signed_X12_sized
set_option maxRecDepth 20000 in
theorem ggX12_signed_X12_isOf : GoodIn wsX12_signed wsX12_isOf := goodIn_r _ [16] (by decide +kernel) (by decide +kernel)
set_option maxRecDepth 20000 in
theorem gX12_signed_X12_isOf : GoodIn wsX12_signed (va_wsS RX12 230 yX12_isOf wsX12_isOf) := goodIn_app (goodIn_of _ (by decide +kernel)) ggX12_signed_X12_isOf
set_option maxRecDepth 20000 in
theorem ggX12_signed_X12_markOf : GoodIn wsX12_signed wsX12_markOf := goodIn_r _ [20, 1, 21, 22, 23, 24, 5, 25, 26, 27, 28, 29, 30, 31, 32, 33, 34, 35, 36, 41, 42, 43, 44, 45, 46, 47, 48, 49, 50, 51, 52, 53, 54, 55, 56, 57, 58, 59, 60, 61, 62, 63, 64, 65, 66, 67, 68, 69] (by decide +kernel) (by decide +kernel)
set_option maxRecDepth 20000 in
theorem gX12_signed_X12_markOf : GoodIn wsX12_signed (wsV RX12 213 RX12 yX12_markOf wsX12_markOf) := goodIn_app (goodIn_of _ (by decide +kernel)) ggX12_signed_X12_markOf
set_option maxRecDepth 20000 in
theorem ggX12_signed_X12_degreeOfOwn : GoodIn wsX12_signed wsX12_degreeOfOwn := goodIn_r _ [40, 1, 21, 22, 23, 24, 5, 25, 26, 27, 28, 41, 42, 43, 44, 45, 46, 47, 48, 49, 50, 51, 52, 53, 54, 55, 56, 57, 58, 59, 60, 61, 62, 63, 64, 65, 66, 67, 68, 69] (by decide +kernel) (by decide +kernel)
set_option maxRecDepth 20000 in
theorem gX12_signed_X12_degreeOfOwn : GoodIn wsX12_signed (wsV RX12 162 RX12 yX12_degreeOfOwn wsX12_degreeOfOwn) := goodIn_app (goodIn_of _ (by decide +kernel)) ggX12_signed_X12_degreeOfOwn
theorem dX12_signed_0 : decode cX12_signed 0 = .ok (.iload_n 2, 1) := by decide +kernel
theorem dX12_signed_1 : decode cX12_signed 1 = .ok (.iconst 1, 1) := by decide +kernel
theorem dX12_signed_2 : decode cX12_signed 2 = .ok (.if_icmp .ne 31, 3) := by decide +kernel
theorem dX12_signed_5 : decode cX12_signed 5 = .ok (.aload_n 0, 1) := by decide +kernel
theorem dX12_signed_6 : decode cX12_signed 6 = .ok (.bipush 23, 2) := by decide +kernel
theorem dX12_signed_8 : decode cX12_signed 8 = .ok (.invokevirtual 236, 3) := by decide +kernel
theorem dX12_signed_11 : decode cX12_signed 11 = .ok (.aload_n 0, 1) := by decide +kernel
theorem dX12_signed_12 : decode cX12_signed 12 = .ok (.bipush 20, 2) := by decide +kernel
theorem dX12_signed_14 : decode cX12_signed 14 = .ok (.invokevirtual 236, 3) := by decide +kernel
theorem dX12_signed_17 : decode cX12_signed 17 = .ok (.aload_n 0, 1) := by decide +kernel
theorem dX12_signed_18 : decode cX12_signed 18 = .ok (.getfield 73, 3) := by decide +kernel
theorem dX12_signed_21 : decode cX12_signed 21 = .ok (.iconst 4, 1) := by decide +kernel
theorem dX12_signed_22 : decode cX12_signed 22 = .ok (.iload_n 1, 1) := by decide +kernel
theorem dX12_signed_23 : decode cX12_signed 23 = .ok (.imul, 1) := by decide +kernel
theorem dX12_signed_24 : decode cX12_signed 24 = .ok (.iaload, 1) := by decide +kernel
theorem dX12_signed_25 : decode cX12_signed 25 = .ok (.aload_n 0, 1) := by decide +kernel
theorem dX12_signed_26 : decode cX12_signed 26 = .ok (.iload_n 1, 1) := by decide +kernel
theorem dX12_signed_27 : decode cX12_signed 27 = .ok (.iload_n 2, 1) := by decide +kernel
theorem dX12_signed_28 : decode cX12_signed 28 = .ok (.invokevirtual 239, 3) := by decide +kernel
theorem dX12_signed_31 : decode cX12_signed 31 = .ok (.iadd, 1) := by decide +kernel
theorem dX12_signed_32 : decode cX12_signed 32 = .ok (.ireturn, 1) := by decide +kernel
theorem dX12_signed_33 : decode cX12_signed 33 = .ok (.iload_n 2, 1) := by decide +kernel
theorem dX12_signed_34 : decode cX12_signed 34 = .ok (.iconst 3, 1) := by decide +kernel
theorem dX12_signed_35 : decode cX12_signed 35 = .ok (.if_icmp .ne 9, 3) := by decide +kernel
theorem dX12_signed_38 : decode cX12_signed 38 = .ok (.aload_n 0, 1) := by decide +kernel
theorem dX12_signed_39 : decode cX12_signed 39 = .ok (.bipush 22, 2) := by decide +kernel
theorem dX12_signed_41 : decode cX12_signed 41 = .ok (.invokevirtual 236, 3) := by decide +kernel
theorem dX12_signed_44 : decode cX12_signed 44 = .ok (.iload_n 2, 1) := by decide +kernel
theorem dX12_signed_45 : decode cX12_signed 45 = .ok (.iconst 2, 1) := by decide +kernel
theorem dX12_signed_46 : decode cX12_signed 46 = .ok (.invokestatic 230, 3) := by decide +kernel
theorem dX12_signed_49 : decode cX12_signed 49 = .ok (.ifCond .eq 9, 3) := by decide +kernel
theorem dX12_signed_52 : decode cX12_signed 52 = .ok (.aload_n 0, 1) := by decide +kernel
theorem dX12_signed_53 : decode cX12_signed 53 = .ok (.bipush 21, 2) := by decide +kernel
theorem dX12_signed_55 : decode cX12_signed 55 = .ok (.invokevirtual 236, 3) := by decide +kernel
theorem dX12_signed_58 : decode cX12_signed 58 = .ok (.aload_n 0, 1) := by decide +kernel
theorem dX12_signed_59 : decode cX12_signed 59 = .ok (.bipush 20, 2) := by decide +kernel
theorem dX12_signed_61 : decode cX12_signed 61 = .ok (.invokevirtual 236, 3) := by decide +kernel
theorem dX12_signed_64 : decode cX12_signed 64 = .ok (.aload_n 0, 1) := by decide +kernel
theorem dX12_signed_65 : decode cX12_signed 65 = .ok (.getfield 73, 3) := by decide +kernel
theorem dX12_signed_68 : decode cX12_signed 68 = .ok (.iconst 4, 1) := by decide +kernel
theorem dX12_signed_69 : decode cX12_signed 69 = .ok (.iload_n 1, 1) := by decide +kernel
theorem dX12_signed_70 : decode cX12_signed 70 = .ok (.imul, 1) := by decide +kernel
theorem dX12_signed_71 : decode cX12_signed 71 = .ok (.iaload, 1) := by decide +kernel
theorem dX12_signed_72 : decode cX12_signed 72 = .ok (.iload_n 2, 1) := by decide +kernel
theorem dX12_signed_73 : decode cX12_signed 73 = .ok (.iconst 2, 1) := by decide +kernel
theorem dX12_signed_74 : decode cX12_signed 74 = .ok (.invokestatic 230, 3) := by decide +kernel
theorem dX12_signed_77 : decode cX12_signed 77 = .ok (.ifCond .eq 11, 3) := by decide +kernel
theorem dX12_signed_80 : decode cX12_signed 80 = .ok (.aload_n 0, 1) := by decide +kernel
theorem dX12_signed_81 : decode cX12_signed 81 = .ok (.iload_n 1, 1) := by decide +kernel
theorem dX12_signed_82 : decode cX12_signed 82 = .ok (.invokevirtual 213, 3) := by decide +kernel
theorem dX12_signed_85 : decode cX12_signed 85 = .ok (.goto 4, 3) := by decide +kernel
theorem dX12_signed_88 : decode cX12_signed 88 = .ok (.iconst 0, 1) := by decide +kernel
theorem dX12_signed_89 : decode cX12_signed 89 = .ok (.iadd, 1) := by decide +kernel
theorem dX12_signed_90 : decode cX12_signed 90 = .ok (.iload_n 2, 1) := by decide +kernel
theorem dX12_signed_91 : decode cX12_signed 91 = .ok (.iconst 3, 1) := by decide +kernel
theorem dX12_signed_92 : decode cX12_signed 92 = .ok (.if_icmp .ne 11, 3) := by decide +kernel
theorem dX12_signed_95 : decode cX12_signed 95 = .ok (.aload_n 0, 1) := by decide +kernel
theorem dX12_signed_96 : decode cX12_signed 96 = .ok (.iload_n 1, 1) := by decide +kernel
theorem dX12_signed_97 : decode cX12_signed 97 = .ok (.invokevirtual 162, 3) := by decide +kernel
theorem dX12_signed_100 : decode cX12_signed 100 = .ok (.goto 4, 3) := by decide +kernel
theorem dX12_signed_103 : decode cX12_signed 103 = .ok (.iconst 0, 1) := by decide +kernel
theorem dX12_signed_104 : decode cX12_signed 104 = .ok (.iadd, 1) := by decide +kernel
theorem dX12_signed_105 : decode cX12_signed 105 = .ok (.ireturn, 1) := by decide +kernel
set_option maxRecDepth 20000 in
theorem ggX12_ask_X12_isPlace : GoodIn wsX12_ask wsX12_isPlace := goodIn_r _ [7, 8, 9, 10, 6, 11] (by decide +kernel) (by decide +kernel)
set_option maxRecDepth 20000 in
theorem gX12_ask_X12_isPlace : GoodIn wsX12_ask (va_wsS RX12 181 yX12_isPlace wsX12_isPlace) := goodIn_app (goodIn_of _ (by decide +kernel)) ggX12_ask_X12_isPlace
set_option maxRecDepth 20000 in
theorem ggX12_ask_X12_in : GoodIn wsX12_ask wsX12_in := goodIn_r _ [11] (by decide +kernel) (by decide +kernel)
set_option maxRecDepth 20000 in
theorem gX12_ask_X12_in : GoodIn wsX12_ask (va_wsS RX12 129 yX12_in wsX12_in) := goodIn_app (goodIn_of _ (by decide +kernel)) ggX12_ask_X12_in
set_option maxRecDepth 20000 in
theorem ggX12_ask_X12_look : GoodIn wsX12_ask wsX12_look := goodIn_r _ [15, 16, 17, 18, 19, 20, 6, 21, 22, 105, 106, 107, 108, 109, 110, 111, 112, 113, 114, 115, 116, 117, 118, 119, 120, 121, 122, 123, 124, 125, 126, 127, 128, 129, 130, 131, 132, 133] (by decide +kernel) (by decide +kernel)
set_option maxRecDepth 20000 in
theorem gX12_ask_X12_look : GoodIn wsX12_ask (wsV RX12 200 RX12 yX12_look wsX12_look) := goodIn_app (goodIn_of _ (by decide +kernel)) ggX12_ask_X12_look
set_option maxRecDepth 20000 in
theorem ggX12_ask_X12_kindOf : GoodIn wsX12_ask wsX12_kindOf := goodIn_r _ [26, 17, 27, 28, 29, 6, 30, 31, 32, 33, 34, 35, 36, 37, 38, 39, 40, 41, 42, 43, 44, 45, 46, 47, 48, 49, 50, 51, 52, 53, 54, 55, 56, 57, 58, 59, 60, 61, 62, 63, 64, 65, 66, 67, 68, 69, 70, 71, 72, 73, 74, 75, 76, 77, 78, 79, 80, 105, 106, 107, 108, 109, 110, 111, 112, 113, 114, 115, 116, 117, 118, 119, 120, 121, 122, 123, 124, 125, 126, 127, 128, 129, 130, 131, 132, 133] (by decide +kernel) (by decide +kernel)
set_option maxRecDepth 20000 in
theorem gX12_ask_X12_kindOf : GoodIn wsX12_ask (wsV RX12 178 RX12 yX12_kindOf wsX12_kindOf) := goodIn_app (goodIn_of _ (by decide +kernel)) ggX12_ask_X12_kindOf
set_option maxRecDepth 20000 in
theorem ggX12_ask_X12_sized : GoodIn wsX12_ask wsX12_sized := goodIn_r _ [84, 17, 37, 85, 86, 87, 6, 88, 3, 89, 90, 91, 92, 105, 106, 107, 108, 109, 110, 111, 112, 113, 114, 115, 116, 117, 118, 119, 120, 121, 122, 123, 124, 125, 126, 127, 128, 129, 130, 131, 132, 133] (by decide +kernel) (by decide +kernel)
set_option maxRecDepth 20000 in
theorem gX12_ask_X12_sized : GoodIn wsX12_ask (wsV RX12 239 RX12 yX12_sized wsX12_sized) := goodIn_app (goodIn_of _ (by decide +kernel)) ggX12_ask_X12_sized
set_option maxRecDepth 20000 in
theorem ggX12_ask_X12_signed : GoodIn wsX12_ask wsX12_signed := goodIn_r _ [96, 37, 85, 86, 87, 6, 88, 3, 89, 81, 82, 83, 84, 17, 90, 91, 92, 97, 98, 99, 100, 42, 43, 44, 45, 46, 47, 48, 49, 101, 102, 103, 104, 55, 56, 57, 58, 38, 39, 40, 41, 105, 106, 107, 108, 109, 110, 111, 112, 113, 114, 115, 116, 117, 118, 119, 120, 121, 122, 123, 124, 125, 126, 127, 128, 129, 130, 131, 132, 133] (by decide +kernel) (by decide +kernel)
set_option maxRecDepth 20000 in
theorem gX12_ask_X12_signed : GoodIn wsX12_ask (wsV RX12 242 RX12 yX12_signed wsX12_signed) := goodIn_app (goodIn_of _ (by decide +kernel)) ggX12_ask_X12_signed
theorem dX12_ask_0 : decode cX12_ask 0 = .ok (.aload_n 0, 1) := by decide +kernel
theorem dX12_ask_1 : decode cX12_ask 1 = .ok (.iconst 0, 1) := by decide +kernel
theorem dX12_ask_2 : decode cX12_ask 2 = .ok (.putfield 1, 3) := by decide +kernel
theorem dX12_ask_5 : decode cX12_ask 5 = .ok (.iload_n 1, 1) := by decide +kernel
theorem dX12_ask_6 : decode cX12_ask 6 = .ok (.invokestatic 181, 3) := by decide +kernel
theorem dX12_ask_9 : decode cX12_ask 9 = .ok (.ifCond .eq 13, 3) := by decide +kernel
theorem dX12_ask_12 : decode cX12_ask 12 = .ok (.iload_n 2, 1) := by decide +kernel
theorem dX12_ask_13 : decode cX12_ask 13 = .ok (.i2l, 1) := by decide +kernel
theorem dX12_ask_14 : decode cX12_ask 14 = .ok (.lconst 0, 1) := by decide +kernel
theorem dX12_ask_15 : decode cX12_ask 15 = .ok (.lconst 1, 1) := by decide +kernel
theorem dX12_ask_16 : decode cX12_ask 16 = .ok (.invokestatic 129, 3) := by decide +kernel
theorem dX12_ask_19 : decode cX12_ask 19 = .ok (.ifCond .ne 6, 3) := by decide +kernel
theorem dX12_ask_22 : decode cX12_ask 22 = .ok (.ldc 141, 2) := by decide +kernel
theorem dX12_ask_24 : decode cX12_ask 24 = .ok (.ireturn, 1) := by decide +kernel
theorem dX12_ask_25 : decode cX12_ask 25 = .ok (.aload_n 0, 1) := by decide +kernel
theorem dX12_ask_26 : decode cX12_ask 26 = .ok (.iconst 0, 1) := by decide +kernel
theorem dX12_ask_27 : decode cX12_ask 27 = .ok (.putfield 233, 3) := by decide +kernel
theorem dX12_ask_30 : decode cX12_ask 30 = .ok (.aload_n 0, 1) := by decide +kernel
theorem dX12_ask_31 : decode cX12_ask 31 = .ok (.iload_n 1, 1) := by decide +kernel
theorem dX12_ask_32 : decode cX12_ask 32 = .ok (.invokevirtual 200, 3) := by decide +kernel
theorem dX12_ask_35 : decode cX12_ask 35 = .ok (.istore_n 3, 1) := by decide +kernel
theorem dX12_ask_36 : decode cX12_ask 36 = .ok (.iload_n 3, 1) := by decide +kernel
theorem dX12_ask_37 : decode cX12_ask 37 = .ok (.ifCond .ge 7, 3) := by decide +kernel
theorem dX12_ask_40 : decode cX12_ask 40 = .ok (.iload_n 3, 1) := by decide +kernel
theorem dX12_ask_41 : decode cX12_ask 41 = .ok (.goto 30, 3) := by decide +kernel
theorem dX12_ask_44 : decode cX12_ask 44 = .ok (.iload_n 2, 1) := by decide +kernel
theorem dX12_ask_45 : decode cX12_ask 45 = .ok (.ifCond .ne 16, 3) := by decide +kernel
theorem dX12_ask_48 : decode cX12_ask 48 = .ok (.aload_n 0, 1) := by decide +kernel
theorem dX12_ask_49 : decode cX12_ask 49 = .ok (.iload_n 1, 1) := by decide +kernel
theorem dX12_ask_50 : decode cX12_ask 50 = .ok (.aload_n 0, 1) := by decide +kernel
theorem dX12_ask_51 : decode cX12_ask 51 = .ok (.iload_n 1, 1) := by decide +kernel
theorem dX12_ask_52 : decode cX12_ask 52 = .ok (.invokevirtual 178, 3) := by decide +kernel
theorem dX12_ask_55 : decode cX12_ask 55 = .ok (.invokevirtual 239, 3) := by decide +kernel
theorem dX12_ask_58 : decode cX12_ask 58 = .ok (.goto 13, 3) := by decide +kernel
theorem dX12_ask_61 : decode cX12_ask 61 = .ok (.aload_n 0, 1) := by decide +kernel
theorem dX12_ask_62 : decode cX12_ask 62 = .ok (.iload_n 1, 1) := by decide +kernel
theorem dX12_ask_63 : decode cX12_ask 63 = .ok (.aload_n 0, 1) := by decide +kernel
theorem dX12_ask_64 : decode cX12_ask 64 = .ok (.iload_n 1, 1) := by decide +kernel
theorem dX12_ask_65 : decode cX12_ask 65 = .ok (.invokevirtual 178, 3) := by decide +kernel
theorem dX12_ask_68 : decode cX12_ask 68 = .ok (.invokevirtual 242, 3) := by decide +kernel
theorem dX12_ask_71 : decode cX12_ask 71 = .ok (.ireturn, 1) := by decide +kernel
set_option maxRecDepth 20000 in
theorem ggX12_trace_X12_in : GoodIn wsX12_trace wsX12_in := goodIn_r _ [8] (by decide +kernel) (by decide +kernel)
set_option maxRecDepth 20000 in
theorem gX12_trace_X12_in : GoodIn wsX12_trace (va_wsS RX12 129 yX12_in wsX12_in) := goodIn_app (goodIn_of _ (by decide +kernel)) ggX12_trace_X12_in
theorem dX12_trace_0 : decode cX12_trace 0 = .ok (.aload_n 0, 1) := by decide +kernel
theorem dX12_trace_1 : decode cX12_trace 1 = .ok (.iconst 0, 1) := by decide +kernel
theorem dX12_trace_2 : decode cX12_trace 2 = .ok (.putfield 1, 3) := by decide +kernel
theorem dX12_trace_5 : decode cX12_trace 5 = .ok (.iload_n 1, 1) := by decide +kernel
theorem dX12_trace_6 : decode cX12_trace 6 = .ok (.i2l, 1) := by decide +kernel
theorem dX12_trace_7 : decode cX12_trace 7 = .ok (.lconst 0, 1) := by decide +kernel
theorem dX12_trace_8 : decode cX12_trace 8 = .ok (.aload_n 0, 1) := by decide +kernel
theorem dX12_trace_9 : decode cX12_trace 9 = .ok (.getfield 233, 3) := by decide +kernel
theorem dX12_trace_12 : decode cX12_trace 12 = .ok (.iconst 1, 1) := by decide +kernel
theorem dX12_trace_13 : decode cX12_trace 13 = .ok (.isub, 1) := by decide +kernel
theorem dX12_trace_14 : decode cX12_trace 14 = .ok (.i2l, 1) := by decide +kernel
theorem dX12_trace_15 : decode cX12_trace 15 = .ok (.invokestatic 129, 3) := by decide +kernel
theorem dX12_trace_18 : decode cX12_trace 18 = .ok (.ifCond .eq 12, 3) := by decide +kernel
theorem dX12_trace_21 : decode cX12_trace 21 = .ok (.aload_n 0, 1) := by decide +kernel
theorem dX12_trace_22 : decode cX12_trace 22 = .ok (.getfield 106, 3) := by decide +kernel
theorem dX12_trace_25 : decode cX12_trace 25 = .ok (.iload_n 1, 1) := by decide +kernel
theorem dX12_trace_26 : decode cX12_trace 26 = .ok (.iaload, 1) := by decide +kernel
theorem dX12_trace_27 : decode cX12_trace 27 = .ok (.goto 5, 3) := by decide +kernel
theorem dX12_trace_30 : decode cX12_trace 30 = .ok (.ldc 142, 2) := by decide +kernel
theorem dX12_trace_32 : decode cX12_trace 32 = .ok (.ireturn, 1) := by decide +kernel
set_option maxRecDepth 20000 in
theorem ggX12_count_X12_kindOf : GoodIn wsX12_count wsX12_kindOf := goodIn_r _ [11, 3, 12, 13, 14, 10, 15, 16, 17, 18, 19, 20, 21, 22, 23, 24, 25, 26, 27, 28, 29, 30, 31, 32, 33, 4, 34, 35, 36, 37, 38, 39, 40, 41, 42, 43, 44, 45, 46, 47, 48, 49, 50, 51, 52, 53, 54, 55, 56, 57, 58, 59, 60, 61, 62, 63, 64, 68, 69, 70, 71, 72, 73, 74, 75, 76, 77, 78, 79, 80, 81, 82, 83, 84, 85, 86, 87, 88, 89, 90, 91, 92, 93, 94, 95, 96] (by decide +kernel) (by decide +kernel)
set_option maxRecDepth 20000 in
theorem gX12_count_X12_kindOf : GoodIn wsX12_count (wsV RX12 178 RX12 yX12_kindOf wsX12_kindOf) := goodIn_app (goodIn_of _ (by decide +kernel)) ggX12_count_X12_kindOf
set_option maxRecDepth 20000 in
theorem ggX12_count_X12_isOf : GoodIn wsX12_count wsX12_isOf := goodIn_r _ [67] (by decide +kernel) (by decide +kernel)
set_option maxRecDepth 20000 in
theorem gX12_count_X12_isOf : GoodIn wsX12_count (va_wsS RX12 230 yX12_isOf wsX12_isOf) := goodIn_app (goodIn_of _ (by decide +kernel)) ggX12_count_X12_isOf
theorem dX12_count_0 : decode cX12_count 0 = .ok (.aload_n 0, 1) := by decide +kernel
theorem dX12_count_1 : decode cX12_count 1 = .ok (.iconst 0, 1) := by decide +kernel
theorem dX12_count_2 : decode cX12_count 2 = .ok (.putfield 1, 3) := by decide +kernel
theorem dX12_count_5 : decode cX12_count 5 = .ok (.iconst 0, 1) := by decide +kernel
theorem dX12_count_6 : decode cX12_count 6 = .ok (.istore_n 2, 1) := by decide +kernel
theorem dX12_count_7 : decode cX12_count 7 = .ok (.iload_n 1, 1) := by decide +kernel
theorem dX12_count_8 : decode cX12_count 8 = .ok (.tableswitch 138 0 7 #[48, 81, 81, 81, 81, 81, 128, 133], 48) := by decide +kernel
theorem dX12_count_56 : decode cX12_count 56 = .ok (.iconst 0, 1) := by decide +kernel
theorem dX12_count_57 : decode cX12_count 57 = .ok (.istore_n 3, 1) := by decide +kernel
theorem dX12_count_58 : decode cX12_count 58 = .ok (.iload_n 3, 1) := by decide +kernel
theorem dX12_count_59 : decode cX12_count 59 = .ok (.bipush 8, 2) := by decide +kernel
theorem dX12_count_61 : decode cX12_count 61 = .ok (.if_icmp .ge 26, 3) := by decide +kernel
theorem dX12_count_64 : decode cX12_count 64 = .ok (.iload_n 2, 1) := by decide +kernel
theorem dX12_count_65 : decode cX12_count 65 = .ok (.aload_n 0, 1) := by decide +kernel
theorem dX12_count_66 : decode cX12_count 66 = .ok (.getfield 61, 3) := by decide +kernel
theorem dX12_count_69 : decode cX12_count 69 = .ok (.iload_n 3, 1) := by decide +kernel
theorem dX12_count_70 : decode cX12_count 70 = .ok (.iaload, 1) := by decide +kernel
theorem dX12_count_71 : decode cX12_count 71 = .ok (.ifCond .lt 7, 3) := by decide +kernel
theorem dX12_count_74 : decode cX12_count 74 = .ok (.iconst 1, 1) := by decide +kernel
theorem dX12_count_75 : decode cX12_count 75 = .ok (.goto 4, 3) := by decide +kernel
theorem dX12_count_78 : decode cX12_count 78 = .ok (.iconst 0, 1) := by decide +kernel
theorem dX12_count_79 : decode cX12_count 79 = .ok (.iadd, 1) := by decide +kernel
theorem dX12_count_80 : decode cX12_count 80 = .ok (.istore_n 2, 1) := by decide +kernel
theorem dX12_count_81 : decode cX12_count 81 = .ok (.iinc 3 1, 3) := by decide +kernel
theorem dX12_count_84 : decode cX12_count 84 = .ok (.goto (-26), 3) := by decide +kernel
theorem dX12_count_87 : decode cX12_count 87 = .ok (.iload_n 2, 1) := by decide +kernel
theorem dX12_count_88 : decode cX12_count 88 = .ok (.ireturn, 1) := by decide +kernel
theorem dX12_count_89 : decode cX12_count 89 = .ok (.iconst 0, 1) := by decide +kernel
theorem dX12_count_90 : decode cX12_count 90 = .ok (.istore_n 3, 1) := by decide +kernel
theorem dX12_count_91 : decode cX12_count 91 = .ok (.iload_n 3, 1) := by decide +kernel
theorem dX12_count_92 : decode cX12_count 92 = .ok (.bipush 10, 2) := by decide +kernel
theorem dX12_count_94 : decode cX12_count 94 = .ok (.if_icmp .ge 40, 3) := by decide +kernel
theorem dX12_count_97 : decode cX12_count 97 = .ok (.iload_n 2, 1) := by decide +kernel
theorem dX12_count_98 : decode cX12_count 98 = .ok (.aload_n 0, 1) := by decide +kernel
theorem dX12_count_99 : decode cX12_count 99 = .ok (.getfield 70, 3) := by decide +kernel
theorem dX12_count_102 : decode cX12_count 102 = .ok (.iload_n 3, 1) := by decide +kernel
theorem dX12_count_103 : decode cX12_count 103 = .ok (.iaload, 1) := by decide +kernel
theorem dX12_count_104 : decode cX12_count 104 = .ok (.ifCond .le 21, 3) := by decide +kernel
theorem dX12_count_107 : decode cX12_count 107 = .ok (.aload_n 0, 1) := by decide +kernel
theorem dX12_count_108 : decode cX12_count 108 = .ok (.iload_n 3, 1) := by decide +kernel
theorem dX12_count_109 : decode cX12_count 109 = .ok (.invokevirtual 178, 3) := by decide +kernel
theorem dX12_count_112 : decode cX12_count 112 = .ok (.iload_n 1, 1) := by decide +kernel
theorem dX12_count_113 : decode cX12_count 113 = .ok (.iconst 1, 1) := by decide +kernel
theorem dX12_count_114 : decode cX12_count 114 = .ok (.isub, 1) := by decide +kernel
theorem dX12_count_115 : decode cX12_count 115 = .ok (.invokestatic 230, 3) := by decide +kernel
theorem dX12_count_118 : decode cX12_count 118 = .ok (.ifCond .eq 7, 3) := by decide +kernel
theorem dX12_count_121 : decode cX12_count 121 = .ok (.iconst 1, 1) := by decide +kernel
theorem dX12_count_122 : decode cX12_count 122 = .ok (.goto 4, 3) := by decide +kernel
theorem dX12_count_125 : decode cX12_count 125 = .ok (.iconst 0, 1) := by decide +kernel
theorem dX12_count_126 : decode cX12_count 126 = .ok (.iadd, 1) := by decide +kernel
theorem dX12_count_127 : decode cX12_count 127 = .ok (.istore_n 2, 1) := by decide +kernel
theorem dX12_count_128 : decode cX12_count 128 = .ok (.iinc 3 1, 3) := by decide +kernel
theorem dX12_count_131 : decode cX12_count 131 = .ok (.goto (-40), 3) := by decide +kernel
theorem dX12_count_134 : decode cX12_count 134 = .ok (.iload_n 2, 1) := by decide +kernel
theorem dX12_count_135 : decode cX12_count 135 = .ok (.ireturn, 1) := by decide +kernel
theorem dX12_count_136 : decode cX12_count 136 = .ok (.aload_n 0, 1) := by decide +kernel
theorem dX12_count_137 : decode cX12_count 137 = .ok (.getfield 109, 3) := by decide +kernel
theorem dX12_count_140 : decode cX12_count 140 = .ok (.ireturn, 1) := by decide +kernel
theorem dX12_count_141 : decode cX12_count 141 = .ok (.aload_n 0, 1) := by decide +kernel
theorem dX12_count_142 : decode cX12_count 142 = .ok (.getfield 39, 3) := by decide +kernel
theorem dX12_count_145 : decode cX12_count 145 = .ok (.ireturn, 1) := by decide +kernel
theorem dX12_count_146 : decode cX12_count 146 = .ok (.ldc 141, 2) := by decide +kernel
theorem dX12_count_148 : decode cX12_count 148 = .ok (.ireturn, 1) := by decide +kernel
theorem dX12_status_0 : decode cX12_status 0 = .ok (.aload_n 0, 1) := by decide +kernel
theorem dX12_status_1 : decode cX12_status 1 = .ok (.iconst 0, 1) := by decide +kernel
theorem dX12_status_2 : decode cX12_status 2 = .ok (.putfield 1, 3) := by decide +kernel
theorem dX12_status_5 : decode cX12_status 5 = .ok (.aload_n 0, 1) := by decide +kernel
theorem dX12_status_6 : decode cX12_status 6 = .ok (.getfield 7, 3) := by decide +kernel
theorem dX12_status_9 : decode cX12_status 9 = .ok (.ireturn, 1) := by decide +kernel
theorem dJ9_max_7cf53_0 : decode cJ9_max_7cf53 0 = .ok (.iload_n 0, 1) := by decide +kernel
theorem dJ9_max_7cf53_1 : decode cJ9_max_7cf53 1 = .ok (.iload_n 1, 1) := by decide +kernel
theorem dJ9_max_7cf53_2 : decode cJ9_max_7cf53 2 = .ok (.if_icmp .lt 7, 3) := by decide +kernel
theorem dJ9_max_7cf53_5 : decode cJ9_max_7cf53 5 = .ok (.iload_n 0, 1) := by decide +kernel
theorem dJ9_max_7cf53_6 : decode cJ9_max_7cf53 6 = .ok (.goto 4, 3) := by decide +kernel
theorem dJ9_max_7cf53_9 : decode cJ9_max_7cf53 9 = .ok (.iload_n 1, 1) := by decide +kernel
theorem dJ9_max_7cf53_10 : decode cJ9_max_7cf53 10 = .ok (.ireturn, 1) := by decide +kernel
theorem dJ9_min_7cf53_0 : decode cJ9_min_7cf53 0 = .ok (.iload_n 0, 1) := by decide +kernel
theorem dJ9_min_7cf53_1 : decode cJ9_min_7cf53 1 = .ok (.iload_n 1, 1) := by decide +kernel
theorem dJ9_min_7cf53_2 : decode cJ9_min_7cf53 2 = .ok (.if_icmp .gt 7, 3) := by decide +kernel
theorem dJ9_min_7cf53_5 : decode cJ9_min_7cf53 5 = .ok (.iload_n 0, 1) := by decide +kernel
theorem dJ9_min_7cf53_6 : decode cJ9_min_7cf53 6 = .ok (.goto 4, 3) := by decide +kernel
theorem dJ9_min_7cf53_9 : decode cJ9_min_7cf53 9 = .ok (.iload_n 1, 1) := by decide +kernel
theorem dJ9_min_7cf53_10 : decode cJ9_min_7cf53 10 = .ok (.ireturn, 1) := by decide +kernel
theorem dJ7_fill_53178_0 : decode cJ7_fill_53178 0 = .ok (.iconst 0, 1) := by decide +kernel
theorem dJ7_fill_53178_1 : decode cJ7_fill_53178 1 = .ok (.istore_n 2, 1) := by decide +kernel
theorem dJ7_fill_53178_2 : decode cJ7_fill_53178 2 = .ok (.aload_n 0, 1) := by decide +kernel
theorem dJ7_fill_53178_3 : decode cJ7_fill_53178 3 = .ok (.arraylength, 1) := by decide +kernel
theorem dJ7_fill_53178_4 : decode cJ7_fill_53178 4 = .ok (.istore_n 3, 1) := by decide +kernel
theorem dJ7_fill_53178_5 : decode cJ7_fill_53178 5 = .ok (.iload_n 2, 1) := by decide +kernel
theorem dJ7_fill_53178_6 : decode cJ7_fill_53178 6 = .ok (.iload_n 3, 1) := by decide +kernel
theorem dJ7_fill_53178_7 : decode cJ7_fill_53178 7 = .ok (.if_icmp .ge 13, 3) := by decide +kernel
theorem dJ7_fill_53178_10 : decode cJ7_fill_53178 10 = .ok (.aload_n 0, 1) := by decide +kernel
theorem dJ7_fill_53178_11 : decode cJ7_fill_53178 11 = .ok (.iload_n 2, 1) := by decide +kernel
theorem dJ7_fill_53178_12 : decode cJ7_fill_53178 12 = .ok (.iload_n 1, 1) := by decide +kernel
theorem dJ7_fill_53178_13 : decode cJ7_fill_53178 13 = .ok (.iastore, 1) := by decide +kernel
theorem dJ7_fill_53178_14 : decode cJ7_fill_53178 14 = .ok (.iinc 2 1, 3) := by decide +kernel
theorem dJ7_fill_53178_17 : decode cJ7_fill_53178 17 = .ok (.goto (-12), 3) := by decide +kernel
theorem dJ7_fill_53178_20 : decode cJ7_fill_53178 20 = .ok (.return_, 1) := by decide +kernel
theorem dJ7_copyOf_59c91_0 : decode cJ7_copyOf_59c91 0 = .ok (.iload_n 1, 1) := by decide +kernel
theorem dJ7_copyOf_59c91_1 : decode cJ7_copyOf_59c91 1 = .ok (.aload_n 0, 1) := by decide +kernel
theorem dJ7_copyOf_59c91_2 : decode cJ7_copyOf_59c91 2 = .ok (.arraylength, 1) := by decide +kernel
theorem dJ7_copyOf_59c91_3 : decode cJ7_copyOf_59c91 3 = .ok (.if_icmp .ne 11, 3) := by decide +kernel
theorem dJ7_copyOf_59c91_6 : decode cJ7_copyOf_59c91 6 = .ok (.aload_n 0, 1) := by decide +kernel
theorem dJ7_copyOf_59c91_7 : decode cJ7_copyOf_59c91 7 = .ok (.invokevirtual 316, 3) := by decide +kernel
theorem dJ7_copyOf_59c91_10 : decode cJ7_copyOf_59c91 10 = .ok (.checkcast 317, 3) := by decide +kernel
theorem dJ7_copyOf_59c91_13 : decode cJ7_copyOf_59c91 13 = .ok (.areturn, 1) := by decide +kernel
theorem dJ7_copyOf_59c91_14 : decode cJ7_copyOf_59c91 14 = .ok (.iload_n 1, 1) := by decide +kernel
theorem dJ7_copyOf_59c91_15 : decode cJ7_copyOf_59c91 15 = .ok (.newarray .int, 2) := by decide +kernel
theorem dJ7_copyOf_59c91_17 : decode cJ7_copyOf_59c91 17 = .ok (.astore_n 2, 1) := by decide +kernel
theorem dJ7_copyOf_59c91_18 : decode cJ7_copyOf_59c91 18 = .ok (.aload_n 0, 1) := by decide +kernel
theorem dJ7_copyOf_59c91_19 : decode cJ7_copyOf_59c91 19 = .ok (.iconst 0, 1) := by decide +kernel
theorem dJ7_copyOf_59c91_20 : decode cJ7_copyOf_59c91 20 = .ok (.aload_n 2, 1) := by decide +kernel
theorem dJ7_copyOf_59c91_21 : decode cJ7_copyOf_59c91 21 = .ok (.iconst 0, 1) := by decide +kernel
theorem dJ7_copyOf_59c91_22 : decode cJ7_copyOf_59c91 22 = .ok (.aload_n 0, 1) := by decide +kernel
theorem dJ7_copyOf_59c91_23 : decode cJ7_copyOf_59c91 23 = .ok (.arraylength, 1) := by decide +kernel
theorem dJ7_copyOf_59c91_24 : decode cJ7_copyOf_59c91 24 = .ok (.iload_n 1, 1) := by decide +kernel
theorem dJ7_copyOf_59c91_25 : decode cJ7_copyOf_59c91 25 = .ok (.invokestatic 304, 3) := by decide +kernel
theorem dJ7_copyOf_59c91_28 : decode cJ7_copyOf_59c91 28 = .ok (.invokestatic 150, 3) := by decide +kernel
theorem dJ7_copyOf_59c91_31 : decode cJ7_copyOf_59c91 31 = .ok (.aload_n 2, 1) := by decide +kernel
theorem dJ7_copyOf_59c91_32 : decode cJ7_copyOf_59c91 32 = .ok (.areturn, 1) := by decide +kernel

