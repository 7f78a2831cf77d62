theorem dX12_restBy_62 : decode cX12_restBy 62 = .ok (.irem, 1) := by decide +kernel
theorem dX12_restBy_63 : decode cX12_restBy 63 = .ok (.iastore, 1) := by decide +kernel
theorem dX12_restBy_64 : decode cX12_restBy 64 = .ok (.iinc 7 1, 3) := by decide +kernel
theorem dX12_restBy_67 : decode cX12_restBy 67 = .ok (.goto (-48), 3) := by decide +kernel
theorem dX12_restBy_70 : decode cX12_restBy 70 = .ok (.iinc 5 (-1), 3) := by decide +kernel
theorem dX12_restBy_73 : decode cX12_restBy 73 = .ok (.goto (-70), 3) := by decide +kernel
theorem dX12_restBy_76 : decode cX12_restBy 76 = .ok (.return_, 1) := by decide +kernel
set_option maxRecDepth 20000 in
theorem ggX12_isPrime_X12_power : GoodIn wsX12_isPrime wsX12_power := goodIn_r _ [7] (by decide +kernel) (by decide +kernel)
set_option maxRecDepth 20000 in
theorem gX12_isPrime_X12_power : GoodIn wsX12_isPrime (va_wsS RX12 14 yX12_power wsX12_power) := goodIn_app (goodIn_of _ (by decide +kernel)) ggX12_isPrime_X12_power
set_option maxRecDepth 20000 in
theorem ggX12_isPrime_X12_figures : GoodIn wsX12_isPrime wsX12_figures := goodIn_r _ [11, 1, 16, 17, 18, 19, 20, 21, 22, 23, 24, 25, 26, 27, 28, 29, 30, 31, 32, 33, 34, 35, 36, 37, 38, 39, 40, 41, 42, 43, 44] (by decide +kernel) (by decide +kernel)
set_option maxRecDepth 20000 in
theorem gX12_isPrime_X12_figures : GoodIn wsX12_isPrime (wsV RX12 22 RX12 yX12_figures wsX12_figures) := goodIn_app (goodIn_of _ (by decide +kernel)) ggX12_isPrime_X12_figures
set_option maxRecDepth 20000 in
theorem ggX12_isPrime_X12_restBy : GoodIn wsX12_isPrime wsX12_restBy := goodIn_r _ [15, 1, 16, 17, 18, 19, 20, 21, 22, 23, 24, 25, 26, 27, 28, 29, 30, 31, 32, 33, 34, 35, 36, 37, 38, 39, 40, 41, 42, 43, 44] (by decide +kernel) (by decide +kernel)
set_option maxRecDepth 20000 in
theorem gX12_isPrime_X12_restBy : GoodIn wsX12_isPrime (wsV RX12 29 RX12 yX12_restBy wsX12_restBy) := goodIn_app (goodIn_of _ (by decide +kernel)) ggX12_isPrime_X12_restBy
theorem dX12_isPrime_0 : decode cX12_isPrime 0 = .ok (.aload_n 0, 1) := by decide +kernel
theorem dX12_isPrime_1 : decode cX12_isPrime 1 = .ok (.getfield 11, 3) := by decide +kernel
theorem dX12_isPrime_4 : decode cX12_isPrime 4 = .ok (.istore_n 3, 1) := by decide +kernel
theorem dX12_isPrime_5 : decode cX12_isPrime 5 = .ok (.iload_n 3, 1) := by decide +kernel
theorem dX12_isPrime_6 : decode cX12_isPrime 6 = .ok (.aload_n 0, 1) := by decide +kernel
theorem dX12_isPrime_7 : decode cX12_isPrime 7 = .ok (.getfield 11, 3) := by decide +kernel
theorem dX12_isPrime_10 : decode cX12_isPrime 10 = .ok (.iload_n 2, 1) := by decide +kernel
theorem dX12_isPrime_11 : decode cX12_isPrime 11 = .ok (.iconst 2, 1) := by decide +kernel
theorem dX12_isPrime_12 : decode cX12_isPrime 12 = .ok (.idiv, 1) := by decide +kernel
theorem dX12_isPrime_13 : decode cX12_isPrime 13 = .ok (.iconst 1, 1) := by decide +kernel
theorem dX12_isPrime_14 : decode cX12_isPrime 14 = .ok (.iadd, 1) := by decide +kernel
theorem dX12_isPrime_15 : decode cX12_isPrime 15 = .ok (.invokestatic 14, 3) := by decide +kernel
theorem dX12_isPrime_18 : decode cX12_isPrime 18 = .ok (.if_icmp .ge 112, 3) := by decide +kernel
theorem dX12_isPrime_21 : decode cX12_isPrime 21 = .ok (.aload_n 0, 1) := by decide +kernel
theorem dX12_isPrime_22 : decode cX12_isPrime 22 = .ok (.iload_n 3, 1) := by decide +kernel
theorem dX12_isPrime_23 : decode cX12_isPrime 23 = .ok (.aload_n 0, 1) := by decide +kernel
theorem dX12_isPrime_24 : decode cX12_isPrime 24 = .ok (.getfield 18, 3) := by decide +kernel
theorem dX12_isPrime_27 : decode cX12_isPrime 27 = .ok (.invokevirtual 22, 3) := by decide +kernel
theorem dX12_isPrime_30 : decode cX12_isPrime 30 = .ok (.istore 4, 2) := by decide +kernel
theorem dX12_isPrime_32 : decode cX12_isPrime 32 = .ok (.aload_n 0, 1) := by decide +kernel
theorem dX12_isPrime_33 : decode cX12_isPrime 33 = .ok (.iload_n 1, 1) := by decide +kernel
theorem dX12_isPrime_34 : decode cX12_isPrime 34 = .ok (.aload_n 0, 1) := by decide +kernel
theorem dX12_isPrime_35 : decode cX12_isPrime 35 = .ok (.getfield 26, 3) := by decide +kernel
theorem dX12_isPrime_38 : decode cX12_isPrime 38 = .ok (.invokevirtual 22, 3) := by decide +kernel
theorem dX12_isPrime_41 : decode cX12_isPrime 41 = .ok (.istore 5, 2) := by decide +kernel
theorem dX12_isPrime_43 : decode cX12_isPrime 43 = .ok (.iload 4, 2) := by decide +kernel
theorem dX12_isPrime_45 : decode cX12_isPrime 45 = .ok (.iconst 1, 1) := by decide +kernel
theorem dX12_isPrime_46 : decode cX12_isPrime 46 = .ok (.if_icmp .lt 78, 3) := by decide +kernel
theorem dX12_isPrime_49 : decode cX12_isPrime 49 = .ok (.aload_n 0, 1) := by decide +kernel
theorem dX12_isPrime_50 : decode cX12_isPrime 50 = .ok (.getfield 18, 3) := by decide +kernel
theorem dX12_isPrime_53 : decode cX12_isPrime 53 = .ok (.iload 4, 2) := by decide +kernel
theorem dX12_isPrime_55 : decode cX12_isPrime 55 = .ok (.iaload, 1) := by decide +kernel
theorem dX12_isPrime_56 : decode cX12_isPrime 56 = .ok (.iconst 1, 1) := by decide +kernel
theorem dX12_isPrime_57 : decode cX12_isPrime 57 = .ok (.if_icmp .ne 67, 3) := by decide +kernel
theorem dX12_isPrime_60 : decode cX12_isPrime 60 = .ok (.aload_n 0, 1) := by decide +kernel
theorem dX12_isPrime_61 : decode cX12_isPrime 61 = .ok (.aload_n 0, 1) := by decide +kernel
theorem dX12_isPrime_62 : decode cX12_isPrime 62 = .ok (.getfield 26, 3) := by decide +kernel
theorem dX12_isPrime_65 : decode cX12_isPrime 65 = .ok (.iload 5, 2) := by decide +kernel
theorem dX12_isPrime_67 : decode cX12_isPrime 67 = .ok (.aload_n 0, 1) := by decide +kernel
theorem dX12_isPrime_68 : decode cX12_isPrime 68 = .ok (.getfield 18, 3) := by decide +kernel
theorem dX12_isPrime_71 : decode cX12_isPrime 71 = .ok (.iload 4, 2) := by decide +kernel
theorem dX12_isPrime_73 : decode cX12_isPrime 73 = .ok (.invokevirtual 29, 3) := by decide +kernel
theorem dX12_isPrime_76 : decode cX12_isPrime 76 = .ok (.iconst 1, 1) := by decide +kernel
theorem dX12_isPrime_77 : decode cX12_isPrime 77 = .ok (.istore 6, 2) := by decide +kernel
theorem dX12_isPrime_79 : decode cX12_isPrime 79 = .ok (.iconst 0, 1) := by decide +kernel
theorem dX12_isPrime_80 : decode cX12_isPrime 80 = .ok (.istore 7, 2) := by decide +kernel
theorem dX12_isPrime_82 : decode cX12_isPrime 82 = .ok (.iload 7, 2) := by decide +kernel
theorem dX12_isPrime_84 : decode cX12_isPrime 84 = .ok (.iload 4, 2) := by decide +kernel
theorem dX12_isPrime_86 : decode cX12_isPrime 86 = .ok (.if_icmp .ge 31, 3) := by decide +kernel
theorem dX12_isPrime_89 : decode cX12_isPrime 89 = .ok (.iload 6, 2) := by decide +kernel
theorem dX12_isPrime_91 : decode cX12_isPrime 91 = .ok (.ifCond .eq 17, 3) := by decide +kernel
theorem dX12_isPrime_94 : decode cX12_isPrime 94 = .ok (.aload_n 0, 1) := by decide +kernel
theorem dX12_isPrime_95 : decode cX12_isPrime 95 = .ok (.getfield 26, 3) := by decide +kernel
theorem dX12_isPrime_98 : decode cX12_isPrime 98 = .ok (.iload 7, 2) := by decide +kernel
theorem dX12_isPrime_100 : decode cX12_isPrime 100 = .ok (.iaload, 1) := by decide +kernel
theorem dX12_isPrime_101 : decode cX12_isPrime 101 = .ok (.ifCond .ne 7, 3) := by decide +kernel
theorem dX12_isPrime_104 : decode cX12_isPrime 104 = .ok (.iconst 1, 1) := by decide +kernel
theorem dX12_isPrime_105 : decode cX12_isPrime 105 = .ok (.goto 4, 3) := by decide +kernel
theorem dX12_isPrime_108 : decode cX12_isPrime 108 = .ok (.iconst 0, 1) := by decide +kernel
theorem dX12_isPrime_109 : decode cX12_isPrime 109 = .ok (.istore 6, 2) := by decide +kernel
theorem dX12_isPrime_111 : decode cX12_isPrime 111 = .ok (.iinc 7 1, 3) := by decide +kernel
theorem dX12_isPrime_114 : decode cX12_isPrime 114 = .ok (.goto (-32), 3) := by decide +kernel
theorem dX12_isPrime_117 : decode cX12_isPrime 117 = .ok (.iload 6, 2) := by decide +kernel
theorem dX12_isPrime_119 : decode cX12_isPrime 119 = .ok (.ifCond .eq 5, 3) := by decide +kernel
theorem dX12_isPrime_122 : decode cX12_isPrime 122 = .ok (.iconst 0, 1) := by decide +kernel
theorem dX12_isPrime_123 : decode cX12_isPrime 123 = .ok (.ireturn, 1) := by decide +kernel
theorem dX12_isPrime_124 : decode cX12_isPrime 124 = .ok (.iinc 3 1, 3) := by decide +kernel
theorem dX12_isPrime_127 : decode cX12_isPrime 127 = .ok (.goto (-122), 3) := by decide +kernel
theorem dX12_isPrime_130 : decode cX12_isPrime 130 = .ok (.iconst 1, 1) := by decide +kernel
theorem dX12_isPrime_131 : decode cX12_isPrime 131 = .ok (.ireturn, 1) := by decide +kernel
set_option maxRecDepth 20000 in
theorem ggX12_slow_X12_figures : GoodIn wsX12_slow wsX12_figures := goodIn_r _ [12, 4, 21, 22, 23, 24, 25, 26, 27, 28, 29, 30, 31, 32, 33, 34, 35, 36, 37, 38, 39, 40, 41, 42, 43, 44, 45, 46, 47, 48, 49] (by decide +kernel) (by decide +kernel)
set_option maxRecDepth 20000 in
theorem gX12_slow_X12_figures : GoodIn wsX12_slow (wsV RX12 22 RX12 yX12_figures wsX12_figures) := goodIn_app (goodIn_of _ (by decide +kernel)) ggX12_slow_X12_figures
set_option maxRecDepth 20000 in
theorem ggX12_slow_X12_restBy : GoodIn wsX12_slow wsX12_restBy := goodIn_r _ [16, 4, 21, 22, 23, 24, 25, 26, 27, 28, 29, 30, 31, 32, 33, 34, 35, 36, 37, 38, 39, 40, 41, 42, 43, 44, 45, 46, 47, 48, 49] (by decide +kernel) (by decide +kernel)
set_option maxRecDepth 20000 in
theorem gX12_slow_X12_restBy : GoodIn wsX12_slow (wsV RX12 29 RX12 yX12_restBy wsX12_restBy) := goodIn_app (goodIn_of _ (by decide +kernel)) ggX12_slow_X12_restBy
set_option maxRecDepth 20000 in
theorem ggX12_slow_X12_codeOf : GoodIn wsX12_slow wsX12_codeOf := goodIn_r _ [20, 4, 21, 22, 23, 24, 25, 26, 27, 28, 29, 30, 31, 32, 33, 34, 35, 36, 37, 38, 39, 40, 41, 42, 43, 44, 45, 46, 47, 48, 49] (by decide +kernel) (by decide +kernel)
set_option maxRecDepth 20000 in
theorem gX12_slow_X12_codeOf : GoodIn wsX12_slow (wsV RX12 45 RX12 yX12_codeOf wsX12_codeOf) := goodIn_app (goodIn_of _ (by decide +kernel)) ggX12_slow_X12_codeOf
theorem dX12_slow_0 : decode cX12_slow 0 = .ok (.aload_n 0, 1) := by decide +kernel
theorem dX12_slow_1 : decode cX12_slow 1 = .ok (.iload_n 1, 1) := by decide +kernel
theorem dX12_slow_2 : decode cX12_slow 2 = .ok (.aload_n 0, 1) := by decide +kernel
theorem dX12_slow_3 : decode cX12_slow 3 = .ok (.getfield 26, 3) := by decide +kernel
theorem dX12_slow_6 : decode cX12_slow 6 = .ok (.invokevirtual 22, 3) := by decide +kernel
theorem dX12_slow_9 : decode cX12_slow 9 = .ok (.istore_n 3, 1) := by decide +kernel
theorem dX12_slow_10 : decode cX12_slow 10 = .ok (.aload_n 0, 1) := by decide +kernel
theorem dX12_slow_11 : decode cX12_slow 11 = .ok (.iload_n 2, 1) := by decide +kernel
theorem dX12_slow_12 : decode cX12_slow 12 = .ok (.aload_n 0, 1) := by decide +kernel
theorem dX12_slow_13 : decode cX12_slow 13 = .ok (.getfield 33, 3) := by decide +kernel
theorem dX12_slow_16 : decode cX12_slow 16 = .ok (.invokevirtual 22, 3) := by decide +kernel
theorem dX12_slow_19 : decode cX12_slow 19 = .ok (.istore 4, 2) := by decide +kernel
theorem dX12_slow_21 : decode cX12_slow 21 = .ok (.iconst 0, 1) := by decide +kernel
theorem dX12_slow_22 : decode cX12_slow 22 = .ok (.istore 5, 2) := by decide +kernel
theorem dX12_slow_24 : decode cX12_slow 24 = .ok (.iload 5, 2) := by decide +kernel
theorem dX12_slow_26 : decode cX12_slow 26 = .ok (.bipush 16, 2) := by decide +kernel
theorem dX12_slow_28 : decode cX12_slow 28 = .ok (.if_icmp .ge 17, 3) := by decide +kernel
theorem dX12_slow_31 : decode cX12_slow 31 = .ok (.aload_n 0, 1) := by decide +kernel
theorem dX12_slow_32 : decode cX12_slow 32 = .ok (.getfield 36, 3) := by decide +kernel
theorem dX12_slow_35 : decode cX12_slow 35 = .ok (.iload 5, 2) := by decide +kernel
theorem dX12_slow_37 : decode cX12_slow 37 = .ok (.iconst 0, 1) := by decide +kernel
theorem dX12_slow_38 : decode cX12_slow 38 = .ok (.iastore, 1) := by decide +kernel
theorem dX12_slow_39 : decode cX12_slow 39 = .ok (.iinc 5 1, 3) := by decide +kernel
theorem dX12_slow_42 : decode cX12_slow 42 = .ok (.goto (-18), 3) := by decide +kernel
theorem dX12_slow_45 : decode cX12_slow 45 = .ok (.iconst 0, 1) := by decide +kernel
theorem dX12_slow_46 : decode cX12_slow 46 = .ok (.istore 5, 2) := by decide +kernel
theorem dX12_slow_48 : decode cX12_slow 48 = .ok (.iload 5, 2) := by decide +kernel
theorem dX12_slow_50 : decode cX12_slow 50 = .ok (.iload_n 3, 1) := by decide +kernel
theorem dX12_slow_51 : decode cX12_slow 51 = .ok (.if_icmp .gt 66, 3) := by decide +kernel
theorem dX12_slow_54 : decode cX12_slow 54 = .ok (.iconst 0, 1) := by decide +kernel
theorem dX12_slow_55 : decode cX12_slow 55 = .ok (.istore 6, 2) := by decide +kernel
theorem dX12_slow_57 : decode cX12_slow 57 = .ok (.iload 6, 2) := by decide +kernel
theorem dX12_slow_59 : decode cX12_slow 59 = .ok (.iload 4, 2) := by decide +kernel
theorem dX12_slow_61 : decode cX12_slow 61 = .ok (.if_icmp .gt 50, 3) := by decide +kernel
theorem dX12_slow_64 : decode cX12_slow 64 = .ok (.aload_n 0, 1) := by decide +kernel
theorem dX12_slow_65 : decode cX12_slow 65 = .ok (.getfield 36, 3) := by decide +kernel
theorem dX12_slow_68 : decode cX12_slow 68 = .ok (.iload 5, 2) := by decide +kernel
theorem dX12_slow_70 : decode cX12_slow 70 = .ok (.iload 6, 2) := by decide +kernel
theorem dX12_slow_72 : decode cX12_slow 72 = .ok (.iadd, 1) := by decide +kernel
theorem dX12_slow_73 : decode cX12_slow 73 = .ok (.aload_n 0, 1) := by decide +kernel
theorem dX12_slow_74 : decode cX12_slow 74 = .ok (.getfield 36, 3) := by decide +kernel
theorem dX12_slow_77 : decode cX12_slow 77 = .ok (.iload 5, 2) := by decide +kernel
theorem dX12_slow_79 : decode cX12_slow 79 = .ok (.iload 6, 2) := by decide +kernel
theorem dX12_slow_81 : decode cX12_slow 81 = .ok (.iadd, 1) := by decide +kernel
theorem dX12_slow_82 : decode cX12_slow 82 = .ok (.iaload, 1) := by decide +kernel
theorem dX12_slow_83 : decode cX12_slow 83 = .ok (.aload_n 0, 1) := by decide +kernel
theorem dX12_slow_84 : decode cX12_slow 84 = .ok (.getfield 26, 3) := by decide +kernel
theorem dX12_slow_87 : decode cX12_slow 87 = .ok (.iload 5, 2) := by decide +kernel
theorem dX12_slow_89 : decode cX12_slow 89 = .ok (.iaload, 1) := by decide +kernel
theorem dX12_slow_90 : decode cX12_slow 90 = .ok (.aload_n 0, 1) := by decide +kernel
theorem dX12_slow_91 : decode cX12_slow 91 = .ok (.getfield 33, 3) := by decide +kernel
theorem dX12_slow_94 : decode cX12_slow 94 = .ok (.iload 6, 2) := by decide +kernel
theorem dX12_slow_96 : decode cX12_slow 96 = .ok (.iaload, 1) := by decide +kernel
theorem dX12_slow_97 : decode cX12_slow 97 = .ok (.imul, 1) := by decide +kernel
theorem dX12_slow_98 : decode cX12_slow 98 = .ok (.iadd, 1) := by decide +kernel
theorem dX12_slow_99 : decode cX12_slow 99 = .ok (.aload_n 0, 1) := by decide +kernel
theorem dX12_slow_100 : decode cX12_slow 100 = .ok (.getfield 11, 3) := by decide +kernel
theorem dX12_slow_103 : decode cX12_slow 103 = .ok (.irem, 1) := by decide +kernel
theorem dX12_slow_104 : decode cX12_slow 104 = .ok (.iastore, 1) := by decide +kernel
theorem dX12_slow_105 : decode cX12_slow 105 = .ok (.iinc 6 1, 3) := by decide +kernel
theorem dX12_slow_108 : decode cX12_slow 108 = .ok (.goto (-51), 3) := by decide +kernel
theorem dX12_slow_111 : decode cX12_slow 111 = .ok (.iinc 5 1, 3) := by decide +kernel
theorem dX12_slow_114 : decode cX12_slow 114 = .ok (.goto (-66), 3) := by decide +kernel
theorem dX12_slow_117 : decode cX12_slow 117 = .ok (.aload_n 0, 1) := by decide +kernel
theorem dX12_slow_118 : decode cX12_slow 118 = .ok (.aload_n 0, 1) := by decide +kernel
theorem dX12_slow_119 : decode cX12_slow 119 = .ok (.getfield 39, 3) := by decide +kernel
theorem dX12_slow_122 : decode cX12_slow 122 = .ok (.aload_n 0, 1) := by decide +kernel
theorem dX12_slow_123 : decode cX12_slow 123 = .ok (.getfield 18, 3) := by decide +kernel
theorem dX12_slow_126 : decode cX12_slow 126 = .ok (.invokevirtual 22, 3) := by decide +kernel
theorem dX12_slow_129 : decode cX12_slow 129 = .ok (.istore 5, 2) := by decide +kernel
theorem dX12_slow_131 : decode cX12_slow 131 = .ok (.aload_n 0, 1) := by decide +kernel
theorem dX12_slow_132 : decode cX12_slow 132 = .ok (.aload_n 0, 1) := by decide +kernel
theorem dX12_slow_133 : decode cX12_slow 133 = .ok (.getfield 36, 3) := by decide +kernel
theorem dX12_slow_136 : decode cX12_slow 136 = .ok (.bipush 15, 2) := by decide +kernel
theorem dX12_slow_138 : decode cX12_slow 138 = .ok (.aload_n 0, 1) := by decide +kernel
theorem dX12_slow_139 : decode cX12_slow 139 = .ok (.getfield 18, 3) := by decide +kernel
theorem dX12_slow_142 : decode cX12_slow 142 = .ok (.iload 5, 2) := by decide +kernel
theorem dX12_slow_144 : decode cX12_slow 144 = .ok (.invokevirtual 29, 3) := by decide +kernel
theorem dX12_slow_147 : decode cX12_slow 147 = .ok (.aload_n 0, 1) := by decide +kernel
theorem dX12_slow_148 : decode cX12_slow 148 = .ok (.aload_n 0, 1) := by decide +kernel
theorem dX12_slow_149 : decode cX12_slow 149 = .ok (.getfield 36, 3) := by decide +kernel
theorem dX12_slow_152 : decode cX12_slow 152 = .ok (.aload_n 0, 1) := by decide +kernel
theorem dX12_slow_153 : decode cX12_slow 153 = .ok (.getfield 42, 3) := by decide +kernel
theorem dX12_slow_156 : decode cX12_slow 156 = .ok (.invokevirtual 45, 3) := by decide +kernel
theorem dX12_slow_159 : decode cX12_slow 159 = .ok (.ireturn, 1) := by decide +kernel
set_option maxRecDepth 20000 in
theorem ggX12_init_X12_power : GoodIn wsX12_init wsX12_power := goodIn_r _ [34] (by decide +kernel) (by decide +kernel)
set_option maxRecDepth 20000 in
theorem gX12_init_X12_power : GoodIn wsX12_init (va_wsS RX12 14 yX12_power wsX12_power) := goodIn_app (goodIn_of _ (by decide +kernel)) ggX12_init_X12_power
set_option maxRecDepth 20000 in
theorem ggX12_init_X12_isPrime : GoodIn wsX12_init wsX12_isPrime := goodIn_r _ [38, 27, 7, 5, 31, 32, 33, 34, 39, 40, 41, 42, 43, 44, 45, 46, 55, 56, 57, 58, 59, 60, 61, 62, 63, 64, 65, 66, 67, 68, 69, 70, 71, 72, 73, 74, 75, 76, 77, 78, 79, 80, 81, 82, 83] (by decide +kernel) (by decide +kernel)
set_option maxRecDepth 20000 in
theorem gX12_init_X12_isPrime : GoodIn wsX12_init (wsV RX12 112 RX12 yX12_isPrime wsX12_isPrime) := goodIn_app (goodIn_of _ (by decide +kernel)) ggX12_init_X12_isPrime
set_option maxRecDepth 20000 in
theorem ggX12_init_X12_slow : GoodIn wsX12_init wsX12_slow := goodIn_r _ [50, 5, 6, 8, 27, 30, 7, 28, 39, 40, 41, 33, 42, 43, 44, 45, 46, 51, 52, 53, 54, 55, 56, 57, 58, 59, 60, 61, 62, 63, 64, 65, 66, 67, 68, 69, 70, 71, 72, 73, 74, 75, 76, 77, 78, 79, 80, 81, 82, 83] (by decide +kernel) (by decide +kernel)
set_option maxRecDepth 20000 in
theorem gX12_init_X12_slow : GoodIn wsX12_init (wsV RX12 116 RX12 yX12_slow wsX12_slow) := goodIn_app (goodIn_of _ (by decide +kernel)) ggX12_init_X12_slow
theorem dX12_init_0 : decode cX12_init 0 = .ok (.aload_n 0, 1) := by decide +kernel
theorem dX12_init_1 : decode cX12_init 1 = .ok (.invokespecial 49, 3) := by decide +kernel
theorem dX12_init_4 : decode cX12_init 4 = .ok (.aload_n 0, 1) := by decide +kernel
theorem dX12_init_5 : decode cX12_init 5 = .ok (.bipush 16, 2) := by decide +kernel
theorem dX12_init_7 : decode cX12_init 7 = .ok (.newarray .int, 2) := by decide +kernel
theorem dX12_init_9 : decode cX12_init 9 = .ok (.putfield 26, 3) := by decide +kernel
theorem dX12_init_12 : decode cX12_init 12 = .ok (.aload_n 0, 1) := by decide +kernel
theorem dX12_init_13 : decode cX12_init 13 = .ok (.bipush 16, 2) := by decide +kernel
theorem dX12_init_15 : decode cX12_init 15 = .ok (.newarray .int, 2) := by decide +kernel
theorem dX12_init_17 : decode cX12_init 17 = .ok (.putfield 33, 3) := by decide +kernel
theorem dX12_init_20 : decode cX12_init 20 = .ok (.aload_n 0, 1) := by decide +kernel
theorem dX12_init_21 : decode cX12_init 21 = .ok (.bipush 16, 2) := by decide +kernel
theorem dX12_init_23 : decode cX12_init 23 = .ok (.newarray .int, 2) := by decide +kernel
theorem dX12_init_25 : decode cX12_init 25 = .ok (.putfield 18, 3) := by decide +kernel
theorem dX12_init_28 : decode cX12_init 28 = .ok (.aload_n 0, 1) := by decide +kernel
theorem dX12_init_29 : decode cX12_init 29 = .ok (.bipush 16, 2) := by decide +kernel
theorem dX12_init_31 : decode cX12_init 31 = .ok (.newarray .int, 2) := by decide +kernel
theorem dX12_init_33 : decode cX12_init 33 = .ok (.putfield 36, 3) := by decide +kernel
theorem dX12_init_36 : decode cX12_init 36 = .ok (.aload_n 0, 1) := by decide +kernel
theorem dX12_init_37 : decode cX12_init 37 = .ok (.sipush 15625, 3) := by decide +kernel
theorem dX12_init_40 : decode cX12_init 40 = .ok (.newarray .int, 2) := by decide +kernel
theorem dX12_init_42 : decode cX12_init 42 = .ok (.putfield 55, 3) := by decide +kernel
theorem dX12_init_45 : decode cX12_init 45 = .ok (.aload_n 0, 1) := by decide +kernel
theorem dX12_init_46 : decode cX12_init 46 = .ok (.sipush 15625, 3) := by decide +kernel
theorem dX12_init_49 : decode cX12_init 49 = .ok (.newarray .int, 2) := by decide +kernel
theorem dX12_init_51 : decode cX12_init 51 = .ok (.putfield 58, 3) := by decide +kernel
theorem dX12_init_54 : decode cX12_init 54 = .ok (.aload_n 0, 1) := by decide +kernel
theorem dX12_init_55 : decode cX12_init 55 = .ok (.bipush 8, 2) := by decide +kernel
theorem dX12_init_57 : decode cX12_init 57 = .ok (.newarray .int, 2) := by decide +kernel
theorem dX12_init_59 : decode cX12_init 59 = .ok (.dup, 1) := by decide +kernel
theorem dX12_init_60 : decode cX12_init 60 = .ok (.iconst 0, 1) := by decide +kernel
theorem dX12_init_61 : decode cX12_init 61 = .ok (.iconst (-1), 1) := by decide +kernel
theorem dX12_init_62 : decode cX12_init 62 = .ok (.iastore, 1) := by decide +kernel
theorem dX12_init_63 : decode cX12_init 63 = .ok (.dup, 1) := by decide +kernel
theorem dX12_init_64 : decode cX12_init 64 = .ok (.iconst 1, 1) := by decide +kernel
theorem dX12_init_65 : decode cX12_init 65 = .ok (.iconst (-1), 1) := by decide +kernel
theorem dX12_init_66 : decode cX12_init 66 = .ok (.iastore, 1) := by decide +kernel
theorem dX12_init_67 : decode cX12_init 67 = .ok (.dup, 1) := by decide +kernel
theorem dX12_init_68 : decode cX12_init 68 = .ok (.iconst 2, 1) := by decide +kernel
theorem dX12_init_69 : decode cX12_init 69 = .ok (.iconst (-1), 1) := by decide +kernel
theorem dX12_init_70 : decode cX12_init 70 = .ok (.iastore, 1) := by decide +kernel
theorem dX12_init_71 : decode cX12_init 71 = .ok (.dup, 1) := by decide +kernel
theorem dX12_init_72 : decode cX12_init 72 = .ok (.iconst 3, 1) := by decide +kernel
theorem dX12_init_73 : decode cX12_init 73 = .ok (.iconst (-1), 1) := by decide +kernel
theorem dX12_init_74 : decode cX12_init 74 = .ok (.iastore, 1) := by decide +kernel
theorem dX12_init_75 : decode cX12_init 75 = .ok (.dup, 1) := by decide +kernel
theorem dX12_init_76 : decode cX12_init 76 = .ok (.iconst 4, 1) := by decide +kernel
theorem dX12_init_77 : decode cX12_init 77 = .ok (.iconst (-1), 1) := by decide +kernel
theorem dX12_init_78 : decode cX12_init 78 = .ok (.iastore, 1) := by decide +kernel
theorem dX12_init_79 : decode cX12_init 79 = .ok (.dup, 1) := by decide +kernel
theorem dX12_init_80 : decode cX12_init 80 = .ok (.iconst 5, 1) := by decide +kernel
theorem dX12_init_81 : decode cX12_init 81 = .ok (.iconst (-1), 1) := by decide +kernel
theorem dX12_init_82 : decode cX12_init 82 = .ok (.iastore, 1) := by decide +kernel
theorem dX12_init_83 : decode cX12_init 83 = .ok (.dup, 1) := by decide +kernel
theorem dX12_init_84 : decode cX12_init 84 = .ok (.bipush 6, 2) := by decide +kernel
theorem dX12_init_86 : decode cX12_init 86 = .ok (.iconst (-1), 1) := by decide +kernel
theorem dX12_init_87 : decode cX12_init 87 = .ok (.iastore, 1) := by decide +kernel
theorem dX12_init_88 : decode cX12_init 88 = .ok (.dup, 1) := by decide +kernel
theorem dX12_init_89 : decode cX12_init 89 = .ok (.bipush 7, 2) := by decide +kernel
theorem dX12_init_91 : decode cX12_init 91 = .ok (.iconst (-1), 1) := by decide +kernel
theorem dX12_init_92 : decode cX12_init 92 = .ok (.iastore, 1) := by decide +kernel
theorem dX12_init_93 : decode cX12_init 93 = .ok (.putfield 61, 3) := by decide +kernel
theorem dX12_init_96 : decode cX12_init 96 = .ok (.aload_n 0, 1) := by decide +kernel
theorem dX12_init_97 : decode cX12_init 97 = .ok (.bipush 8, 2) := by decide +kernel
theorem dX12_init_99 : decode cX12_init 99 = .ok (.newarray .int, 2) := by decide +kernel
theorem dX12_init_101 : decode cX12_init 101 = .ok (.putfield 64, 3) := by decide +kernel
theorem dX12_init_104 : decode cX12_init 104 = .ok (.aload_n 0, 1) := by decide +kernel
theorem dX12_init_105 : decode cX12_init 105 = .ok (.sipush 192, 3) := by decide +kernel
theorem dX12_init_108 : decode cX12_init 108 = .ok (.newarray .int, 2) := by decide +kernel
theorem dX12_init_110 : decode cX12_init 110 = .ok (.putfield 67, 3) := by decide +kernel
theorem dX12_init_113 : decode cX12_init 113 = .ok (.aload_n 0, 1) := by decide +kernel
theorem dX12_init_114 : decode cX12_init 114 = .ok (.bipush 10, 2) := by decide +kernel
theorem dX12_init_116 : decode cX12_init 116 = .ok (.newarray .int, 2) := by decide +kernel
theorem dX12_init_118 : decode cX12_init 118 = .ok (.putfield 70, 3) := by decide +kernel
theorem dX12_init_121 : decode cX12_init 121 = .ok (.aload_n 0, 1) := by decide +kernel
theorem dX12_init_122 : decode cX12_init 122 = .ok (.bipush 40, 2) := by decide +kernel
theorem dX12_init_124 : decode cX12_init 124 = .ok (.newarray .int, 2) := by decide +kernel
theorem dX12_init_126 : decode cX12_init 126 = .ok (.putfield 73, 3) := by decide +kernel
theorem dX12_init_129 : decode cX12_init 129 = .ok (.aload_n 0, 1) := by decide +kernel
theorem dX12_init_130 : decode cX12_init 130 = .ok (.bipush 24, 2) := by decide +kernel
theorem dX12_init_132 : decode cX12_init 132 = .ok (.newarray .int, 2) := by decide +kernel
theorem dX12_init_134 : decode cX12_init 134 = .ok (.putfield 76, 3) := by decide +kernel
theorem dX12_init_137 : decode cX12_init 137 = .ok (.aload_n 0, 1) := by decide +kernel
theorem dX12_init_138 : decode cX12_init 138 = .ok (.bipush 24, 2) := by decide +kernel
theorem dX12_init_140 : decode cX12_init 140 = .ok (.newarray .int, 2) := by decide +kernel
theorem dX12_init_142 : decode cX12_init 142 = .ok (.putfield 79, 3) := by decide +kernel
theorem dX12_init_145 : decode cX12_init 145 = .ok (.aload_n 0, 1) := by decide +kernel
theorem dX12_init_146 : decode cX12_init 146 = .ok (.bipush 24, 2) := by decide +kernel
theorem dX12_init_148 : decode cX12_init 148 = .ok (.newarray .int, 2) := by decide +kernel
theorem dX12_init_150 : decode cX12_init 150 = .ok (.putfield 82, 3) := by decide +kernel
theorem dX12_init_153 : decode cX12_init 153 = .ok (.aload_n 0, 1) := by decide +kernel
theorem dX12_init_154 : decode cX12_init 154 = .ok (.bipush 8, 2) := by decide +kernel
theorem dX12_init_156 : decode cX12_init 156 = .ok (.newarray .int, 2) := by decide +kernel
theorem dX12_init_158 : decode cX12_init 158 = .ok (.putfield 85, 3) := by decide +kernel
theorem dX12_init_161 : decode cX12_init 161 = .ok (.aload_n 0, 1) := by decide +kernel
theorem dX12_init_162 : decode cX12_init 162 = .ok (.iconst 4, 1) := by decide +kernel
theorem dX12_init_163 : decode cX12_init 163 = .ok (.newarray .int, 2) := by decide +kernel
theorem dX12_init_165 : decode cX12_init 165 = .ok (.putfield 88, 3) := by decide +kernel
theorem dX12_init_168 : decode cX12_init 168 = .ok (.aload_n 0, 1) := by decide +kernel
theorem dX12_init_169 : decode cX12_init 169 = .ok (.iconst 5, 1) := by decide +kernel
theorem dX12_init_170 : decode cX12_init 170 = .ok (.newarray .int, 2) := by decide +kernel
theorem dX12_init_172 : decode cX12_init 172 = .ok (.putfield 91, 3) := by decide +kernel
theorem dX12_init_175 : decode cX12_init 175 = .ok (.aload_n 0, 1) := by decide +kernel
theorem dX12_init_176 : decode cX12_init 176 = .ok (.bipush 42, 2) := by decide +kernel
theorem dX12_init_178 : decode cX12_init 178 = .ok (.newarray .int, 2) := by decide +kernel
theorem dX12_init_180 : decode cX12_init 180 = .ok (.putfield 94, 3) := by decide +kernel
theorem dX12_init_183 : decode cX12_init 183 = .ok (.aload_n 0, 1) := by decide +kernel
theorem dX12_init_184 : decode cX12_init 184 = .ok (.sipush 448, 3) := by decide +kernel
theorem dX12_init_187 : decode cX12_init 187 = .ok (.newarray .int, 2) := by decide +kernel
theorem dX12_init_189 : decode cX12_init 189 = .ok (.putfield 97, 3) := by decide +kernel
theorem dX12_init_192 : decode cX12_init 192 = .ok (.aload_n 0, 1) := by decide +kernel
theorem dX12_init_193 : decode cX12_init 193 = .ok (.bipush 36, 2) := by decide +kernel
theorem dX12_init_195 : decode cX12_init 195 = .ok (.newarray .int, 2) := by decide +kernel
theorem dX12_init_197 : decode cX12_init 197 = .ok (.putfield 100, 3) := by decide +kernel
theorem dX12_init_200 : decode cX12_init 200 = .ok (.aload_n 0, 1) := by decide +kernel
theorem dX12_init_201 : decode cX12_init 201 = .ok (.bipush 20, 2) := by decide +kernel
theorem dX12_init_203 : decode cX12_init 203 = .ok (.newarray .int, 2) := by decide +kernel
theorem dX12_init_205 : decode cX12_init 205 = .ok (.putfield 103, 3) := by decide +kernel
theorem dX12_init_208 : decode cX12_init 208 = .ok (.aload_n 0, 1) := by decide +kernel
theorem dX12_init_209 : decode cX12_init 209 = .ok (.bipush 16, 2) := by decide +kernel
theorem dX12_init_211 : decode cX12_init 211 = .ok (.newarray .int, 2) := by decide +kernel
theorem dX12_init_213 : decode cX12_init 213 = .ok (.putfield 106, 3) := by decide +kernel
theorem dX12_init_216 : decode cX12_init 216 = .ok (.aload_n 0, 1) := by decide +kernel
theorem dX12_init_217 : decode cX12_init 217 = .ok (.iload_n 1, 1) := by decide +kernel
theorem dX12_init_218 : decode cX12_init 218 = .ok (.iconst 3, 1) := by decide +kernel
theorem dX12_init_219 : decode cX12_init 219 = .ok (.if_icmp .eq 8, 3) := by decide +kernel
theorem dX12_init_222 : decode cX12_init 222 = .ok (.iload_n 1, 1) := by decide +kernel
theorem dX12_init_223 : decode cX12_init 223 = .ok (.iconst 5, 1) := by decide +kernel
theorem dX12_init_224 : decode cX12_init 224 = .ok (.if_icmp .ne 7, 3) := by decide +kernel
theorem dX12_init_227 : decode cX12_init 227 = .ok (.iload_n 1, 1) := by decide +kernel
theorem dX12_init_228 : decode cX12_init 228 = .ok (.goto 4, 3) := by decide +kernel
theorem dX12_init_231 : decode cX12_init 231 = .ok (.iconst 2, 1) := by decide +kernel
theorem dX12_init_232 : decode cX12_init 232 = .ok (.putfield 11, 3) := by decide +kernel
theorem dX12_init_235 : decode cX12_init 235 = .ok (.aload_n 0, 1) := by decide +kernel
theorem dX12_init_236 : decode cX12_init 236 = .ok (.iload_n 2, 1) := by decide +kernel
theorem dX12_init_237 : decode cX12_init 237 = .ok (.iconst 1, 1) := by decide +kernel
theorem dX12_init_238 : decode cX12_init 238 = .ok (.if_icmp .ge 7, 3) := by decide +kernel
theorem dX12_init_241 : decode cX12_init 241 = .ok (.iconst 1, 1) := by decide +kernel
theorem dX12_init_242 : decode cX12_init 242 = .ok (.goto 15, 3) := by decide +kernel
theorem dX12_init_245 : decode cX12_init 245 = .ok (.iload_n 2, 1) := by decide +kernel
theorem dX12_init_246 : decode cX12_init 246 = .ok (.bipush 6, 2) := by decide +kernel
theorem dX12_init_248 : decode cX12_init 248 = .ok (.if_icmp .le 8, 3) := by decide +kernel
theorem dX12_init_251 : decode cX12_init 251 = .ok (.bipush 6, 2) := by decide +kernel
theorem dX12_init_253 : decode cX12_init 253 = .ok (.goto 4, 3) := by decide +kernel
theorem dX12_init_256 : decode cX12_init 256 = .ok (.iload_n 2, 1) := by decide +kernel
theorem dX12_init_257 : decode cX12_init 257 = .ok (.putfield 42, 3) := by decide +kernel
theorem dX12_init_260 : decode cX12_init 260 = .ok (.aload_n 0, 1) := by decide +kernel
theorem dX12_init_261 : decode cX12_init 261 = .ok (.aload_n 0, 1) := by decide +kernel
theorem dX12_init_262 : decode cX12_init 262 = .ok (.getfield 11, 3) := by decide +kernel
theorem dX12_init_265 : decode cX12_init 265 = .ok (.aload_n 0, 1) := by decide +kernel
theorem dX12_init_266 : decode cX12_init 266 = .ok (.getfield 42, 3) := by decide +kernel
theorem dX12_init_269 : decode cX12_init 269 = .ok (.invokestatic 14, 3) := by decide +kernel
theorem dX12_init_272 : decode cX12_init 272 = .ok (.putfield 109, 3) := by decide +kernel
theorem dX12_init_275 : decode cX12_init 275 = .ok (.aload_n 0, 1) := by decide +kernel
theorem dX12_init_276 : decode cX12_init 276 = .ok (.getfield 109, 3) := by decide +kernel
theorem dX12_init_279 : decode cX12_init 279 = .ok (.istore_n 3, 1) := by decide +kernel
theorem dX12_init_280 : decode cX12_init 280 = .ok (.aload_n 0, 1) := by decide +kernel
theorem dX12_init_281 : decode cX12_init 281 = .ok (.getfield 42, 3) := by decide +kernel
theorem dX12_init_284 : decode cX12_init 284 = .ok (.iconst 1, 1) := by decide +kernel
theorem dX12_init_285 : decode cX12_init 285 = .ok (.if_icmp .le 21, 3) := by decide +kernel
theorem dX12_init_288 : decode cX12_init 288 = .ok (.aload_n 0, 1) := by decide +kernel
theorem dX12_init_289 : decode cX12_init 289 = .ok (.iload_n 3, 1) := by decide +kernel
theorem dX12_init_290 : decode cX12_init 290 = .ok (.aload_n 0, 1) := by decide +kernel
theorem dX12_init_291 : decode cX12_init 291 = .ok (.getfield 42, 3) := by decide +kernel
theorem dX12_init_294 : decode cX12_init 294 = .ok (.invokevirtual 112, 3) := by decide +kernel
theorem dX12_init_297 : decode cX12_init 297 = .ok (.ifCond .ne 9, 3) := by decide +kernel
theorem dX12_init_300 : decode cX12_init 300 = .ok (.iinc 3 1, 3) := by decide +kernel
theorem dX12_init_303 : decode cX12_init 303 = .ok (.goto (-23), 3) := by decide +kernel
theorem dX12_init_306 : decode cX12_init 306 = .ok (.aload_n 0, 1) := by decide +kernel
theorem dX12_init_307 : decode cX12_init 307 = .ok (.iload_n 3, 1) := by decide +kernel
theorem dX12_init_308 : decode cX12_init 308 = .ok (.putfield 39, 3) := by decide +kernel
theorem dX12_init_311 : decode cX12_init 311 = .ok (.iconst 0, 1) := by decide +kernel
theorem dX12_init_312 : decode cX12_init 312 = .ok (.istore 4, 2) := by decide +kernel
theorem dX12_init_314 : decode cX12_init 314 = .ok (.iconst 1, 1) := by decide +kernel
theorem dX12_init_315 : decode cX12_init 315 = .ok (.istore 5, 2) := by decide +kernel
theorem dX12_init_317 : decode cX12_init 317 = .ok (.iload 5, 2) := by decide +kernel
theorem dX12_init_319 : decode cX12_init 319 = .ok (.aload_n 0, 1) := by decide +kernel
theorem dX12_init_320 : decode cX12_init 320 = .ok (.getfield 109, 3) := by decide +kernel
theorem dX12_init_323 : decode cX12_init 323 = .ok (.if_icmp .ge 93, 3) := by decide +kernel
theorem dX12_init_326 : decode cX12_init 326 = .ok (.iload 4, 2) := by decide +kernel
theorem dX12_init_328 : decode cX12_init 328 = .ok (.ifCond .ne 88, 3) := by decide +kernel
theorem dX12_init_331 : decode cX12_init 331 = .ok (.iconst 1, 1) := by decide +kernel
theorem dX12_init_332 : decode cX12_init 332 = .ok (.istore 6, 2) := by decide +kernel
theorem dX12_init_334 : decode cX12_init 334 = .ok (.iconst 0, 1) := by decide +kernel
theorem dX12_init_335 : decode cX12_init 335 = .ok (.istore 7, 2) := by decide +kernel
theorem dX12_init_337 : decode cX12_init 337 = .ok (.iconst 1, 1) := by decide +kernel
theorem dX12_init_338 : decode cX12_init 338 = .ok (.istore 8, 2) := by decide +kernel
theorem dX12_init_340 : decode cX12_init 340 = .ok (.iload 8, 2) := by decide +kernel
theorem dX12_init_342 : decode cX12_init 342 = .ok (.ifCond .eq 50, 3) := by decide +kernel
theorem dX12_init_345 : decode cX12_init 345 = .ok (.aload_n 0, 1) := by decide +kernel
theorem dX12_init_346 : decode cX12_init 346 = .ok (.getfield 55, 3) := by decide +kernel
theorem dX12_init_349 : decode cX12_init 349 = .ok (.iload 7, 2) := by decide +kernel
theorem dX12_init_351 : decode cX12_init 351 = .ok (.iload 6, 2) := by decide +kernel
theorem dX12_init_353 : decode cX12_init 353 = .ok (.iastore, 1) := by decide +kernel
theorem dX12_init_354 : decode cX12_init 354 = .ok (.aload_n 0, 1) := by decide +kernel
theorem dX12_init_355 : decode cX12_init 355 = .ok (.getfield 58, 3) := by decide +kernel
theorem dX12_init_358 : decode cX12_init 358 = .ok (.iload 6, 2) := by decide +kernel
theorem dX12_init_360 : decode cX12_init 360 = .ok (.iload 7, 2) := by decide +kernel
theorem dX12_init_362 : decode cX12_init 362 = .ok (.iastore, 1) := by decide +kernel
theorem dX12_init_363 : decode cX12_init 363 = .ok (.iinc 7 1, 3) := by decide +kernel
theorem dX12_init_366 : decode cX12_init 366 = .ok (.aload_n 0, 1) := by decide +kernel
theorem dX12_init_367 : decode cX12_init 367 = .ok (.iload 6, 2) := by decide +kernel
theorem dX12_init_369 : decode cX12_init 369 = .ok (.iload 5, 2) := by decide +kernel
theorem dX12_init_371 : decode cX12_init 371 = .ok (.invokevirtual 116, 3) := by decide +kernel
theorem dX12_init_374 : decode cX12_init 374 = .ok (.istore 6, 2) := by decide +kernel
theorem dX12_init_376 : decode cX12_init 376 = .ok (.iload 6, 2) := by decide +kernel
theorem dX12_init_378 : decode cX12_init 378 = .ok (.iconst 1, 1) := by decide +kernel
theorem dX12_init_379 : decode cX12_init 379 = .ok (.if_icmp .eq 7, 3) := by decide +kernel
theorem dX12_init_382 : decode cX12_init 382 = .ok (.iconst 1, 1) := by decide +kernel
theorem dX12_init_383 : decode cX12_init 383 = .ok (.goto 4, 3) := by decide +kernel
theorem dX12_init_386 : decode cX12_init 386 = .ok (.iconst 0, 1) := by decide +kernel
theorem dX12_init_387 : decode cX12_init 387 = .ok (.istore 8, 2) := by decide +kernel
theorem dX12_init_389 : decode cX12_init 389 = .ok (.goto (-49), 3) := by decide +kernel
theorem dX12_init_392 : decode cX12_init 392 = .ok (.iload 7, 2) := by decide +kernel
theorem dX12_init_394 : decode cX12_init 394 = .ok (.aload_n 0, 1) := by decide +kernel
theorem dX12_init_395 : decode cX12_init 395 = .ok (.getfield 109, 3) := by decide +kernel
theorem dX12_init_398 : decode cX12_init 398 = .ok (.iconst 1, 1) := by decide +kernel
theorem dX12_init_399 : decode cX12_init 399 = .ok (.isub, 1) := by decide +kernel
theorem dX12_init_400 : decode cX12_init 400 = .ok (.if_icmp .ne 7, 3) := by decide +kernel
theorem dX12_init_403 : decode cX12_init 403 = .ok (.iconst 1, 1) := by decide +kernel
theorem dX12_init_404 : decode cX12_init 404 = .ok (.goto 4, 3) := by decide +kernel
theorem dX12_init_407 : decode cX12_init 407 = .ok (.iconst 0, 1) := by decide +kernel
theorem dX12_init_408 : decode cX12_init 408 = .ok (.istore 4, 2) := by decide +kernel
theorem dX12_init_410 : decode cX12_init 410 = .ok (.iinc 5 1, 3) := by decide +kernel
theorem dX12_init_413 : decode cX12_init 413 = .ok (.goto (-96), 3) := by decide +kernel
theorem dX12_init_416 : decode cX12_init 416 = .ok (.return_, 1) := by decide +kernel
theorem dX12_add_0 : decode cX12_add 0 = .ok (.iconst 0, 1) := by decide +kernel
theorem dX12_add_1 : decode cX12_add 1 = .ok (.istore_n 3, 1) := by decide +kernel
theorem dX12_add_2 : decode cX12_add 2 = .ok (.iconst 1, 1) := by decide +kernel
theorem dX12_add_3 : decode cX12_add 3 = .ok (.istore 4, 2) := by decide +kernel
theorem dX12_add_5 : decode cX12_add 5 = .ok (.iload_n 1, 1) := by decide +kernel
theorem dX12_add_6 : decode cX12_add 6 = .ok (.istore 5, 2) := by decide +kernel
theorem dX12_add_8 : decode cX12_add 8 = .ok (.iload_n 2, 1) := by decide +kernel
theorem dX12_add_9 : decode cX12_add 9 = .ok (.istore 6, 2) := by decide +kernel
theorem dX12_add_11 : decode cX12_add 11 = .ok (.iload 5, 2) := by decide +kernel
theorem dX12_add_13 : decode cX12_add 13 = .ok (.ifCond .gt 8, 3) := by decide +kernel
theorem dX12_add_16 : decode cX12_add 16 = .ok (.iload 6, 2) := by decide +kernel
theorem dX12_add_18 : decode cX12_add 18 = .ok (.ifCond .le 59, 3) := by decide +kernel
theorem dX12_add_21 : decode cX12_add 21 = .ok (.iload_n 3, 1) := by decide +kernel
theorem dX12_add_22 : decode cX12_add 22 = .ok (.iload 4, 2) := by decide +kernel
theorem dX12_add_24 : decode cX12_add 24 = .ok (.iload 5, 2) := by decide +kernel
theorem dX12_add_26 : decode cX12_add 26 = .ok (.aload_n 0, 1) := by decide +kernel
theorem dX12_add_27 : decode cX12_add 27 = .ok (.getfield 11, 3) := by decide +kernel
theorem dX12_add_30 : decode cX12_add 30 = .ok (.irem, 1) := by decide +kernel
theorem dX12_add_31 : decode cX12_add 31 = .ok (.iload 6, 2) := by decide +kernel
theorem dX12_add_33 : decode cX12_add 33 = .ok (.aload_n 0, 1) := by decide +kernel
theorem dX12_add_34 : decode cX12_add 34 = .ok (.getfield 11, 3) := by decide +kernel
theorem dX12_add_37 : decode cX12_add 37 = .ok (.irem, 1) := by decide +kernel
theorem dX12_add_38 : decode cX12_add 38 = .ok (.iadd, 1) := by decide +kernel
theorem dX12_add_39 : decode cX12_add 39 = .ok (.aload_n 0, 1) := by decide +kernel
theorem dX12_add_40 : decode cX12_add 40 = .ok (.getfield 11, 3) := by decide +kernel
theorem dX12_add_43 : decode cX12_add 43 = .ok (.irem, 1) := by decide +kernel
theorem dX12_add_44 : decode cX12_add 44 = .ok (.imul, 1) := by decide +kernel
theorem dX12_add_45 : decode cX12_add 45 = .ok (.iadd, 1) := by decide +kernel
theorem dX12_add_46 : decode cX12_add 46 = .ok (.istore_n 3, 1) := by decide +kernel
theorem dX12_add_47 : decode cX12_add 47 = .ok (.iload 5, 2) := by decide +kernel
theorem dX12_add_49 : decode cX12_add 49 = .ok (.aload_n 0, 1) := by decide +kernel
theorem dX12_add_50 : decode cX12_add 50 = .ok (.getfield 11, 3) := by decide +kernel
theorem dX12_add_53 : decode cX12_add 53 = .ok (.idiv, 1) := by decide +kernel
theorem dX12_add_54 : decode cX12_add 54 = .ok (.istore 5, 2) := by decide +kernel
theorem dX12_add_56 : decode cX12_add 56 = .ok (.iload 6, 2) := by decide +kernel
theorem dX12_add_58 : decode cX12_add 58 = .ok (.aload_n 0, 1) := by decide +kernel
theorem dX12_add_59 : decode cX12_add 59 = .ok (.getfield 11, 3) := by decide +kernel
theorem dX12_add_62 : decode cX12_add 62 = .ok (.idiv, 1) := by decide +kernel
theorem dX12_add_63 : decode cX12_add 63 = .ok (.istore 6, 2) := by decide +kernel
theorem dX12_add_65 : decode cX12_add 65 = .ok (.iload 4, 2) := by decide +kernel
theorem dX12_add_67 : decode cX12_add 67 = .ok (.aload_n 0, 1) := by decide +kernel
theorem dX12_add_68 : decode cX12_add 68 = .ok (.getfield 11, 3) := by decide +kernel
theorem dX12_add_71 : decode cX12_add 71 = .ok (.imul, 1) := by decide +kernel
theorem dX12_add_72 : decode cX12_add 72 = .ok (.istore 4, 2) := by decide +kernel
theorem dX12_add_74 : decode cX12_add 74 = .ok (.goto (-63), 3) := by decide +kernel
theorem dX12_add_77 : decode cX12_add 77 = .ok (.iload_n 3, 1) := by decide +kernel
theorem dX12_add_78 : decode cX12_add 78 = .ok (.ireturn, 1) := by decide +kernel
theorem dX12_times_0 : decode cX12_times 0 = .ok (.iload_n 1, 1) := by decide +kernel
theorem dX12_times_1 : decode cX12_times 1 = .ok (.ifCond .eq 7, 3) := by decide +kernel
theorem dX12_times_4 : decode cX12_times 4 = .ok (.iload_n 2, 1) := by decide +kernel
theorem dX12_times_5 : decode cX12_times 5 = .ok (.ifCond .ne 7, 3) := by decide +kernel
theorem dX12_times_8 : decode cX12_times 8 = .ok (.iconst 0, 1) := by decide +kernel
theorem dX12_times_9 : decode cX12_times 9 = .ok (.goto 28, 3) := by decide +kernel
theorem dX12_times_12 : decode cX12_times 12 = .ok (.aload_n 0, 1) := by decide +kernel
theorem dX12_times_13 : decode cX12_times 13 = .ok (.getfield 55, 3) := by decide +kernel
theorem dX12_times_16 : decode cX12_times 16 = .ok (.aload_n 0, 1) := by decide +kernel
theorem dX12_times_17 : decode cX12_times 17 = .ok (.getfield 58, 3) := by decide +kernel
theorem dX12_times_20 : decode cX12_times 20 = .ok (.iload_n 1, 1) := by decide +kernel
theorem dX12_times_21 : decode cX12_times 21 = .ok (.iaload, 1) := by decide +kernel
theorem dX12_times_22 : decode cX12_times 22 = .ok (.aload_n 0, 1) := by decide +kernel
theorem dX12_times_23 : decode cX12_times 23 = .ok (.getfield 58, 3) := by decide +kernel
theorem dX12_times_26 : decode cX12_times 26 = .ok (.iload_n 2, 1) := by decide +kernel
theorem dX12_times_27 : decode cX12_times 27 = .ok (.iaload, 1) := by decide +kernel
theorem dX12_times_28 : decode cX12_times 28 = .ok (.iadd, 1) := by decide +kernel
theorem dX12_times_29 : decode cX12_times 29 = .ok (.aload_n 0, 1) := by decide +kernel
theorem dX12_times_30 : decode cX12_times 30 = .ok (.getfield 109, 3) := by decide +kernel
theorem dX12_times_33 : decode cX12_times 33 = .ok (.iconst 1, 1) := by decide +kernel
theorem dX12_times_34 : decode cX12_times 34 = .ok (.isub, 1) := by decide +kernel
theorem dX12_times_35 : decode cX12_times 35 = .ok (.irem, 1) := by decide +kernel
theorem dX12_times_36 : decode cX12_times 36 = .ok (.iaload, 1) := by decide +kernel
theorem dX12_times_37 : decode cX12_times 37 = .ok (.ireturn, 1) := by decide +kernel
set_option maxRecDepth 20000 in
theorem ggX12_less_X12_times : GoodIn wsX12_less wsX12_times := goodIn_r _ [6, 7, 8, 9, 14, 15, 16, 17, 18, 19, 20, 21, 22, 23, 24, 25, 26, 27, 28, 29, 30, 31, 32, 33, 34, 35, 36, 37, 38, 39, 40, 41, 42] (by decide +kernel) (by decide +kernel)
set_option maxRecDepth 20000 in
theorem gX12_less_X12_times : GoodIn wsX12_less (wsV RX12 119 RX12 yX12_times wsX12_times) := goodIn_app (goodIn_of _ (by decide +kernel)) ggX12_less_X12_times
set_option maxRecDepth 20000 in
theorem ggX12_less_X12_add : GoodIn wsX12_less wsX12_add := goodIn_r _ [13, 1, 14, 15, 16, 17, 18, 19, 20, 21, 22, 23, 24, 25, 26, 27, 28, 29, 30, 31, 32, 33, 34, 35, 36, 37, 38, 39, 40, 41, 42] (by decide +kernel) (by decide +kernel)
set_option maxRecDepth 20000 in
theorem gX12_less_X12_add : GoodIn wsX12_less (wsV RX12 122 RX12 yX12_add wsX12_add) := goodIn_app (goodIn_of _ (by decide +kernel)) ggX12_less_X12_add
theorem dX12_less_0 : decode cX12_less 0 = .ok (.aload_n 0, 1) := by decide +kernel
theorem dX12_less_1 : decode cX12_less 1 = .ok (.iload_n 1, 1) := by decide +kernel
theorem dX12_less_2 : decode cX12_less 2 = .ok (.aload_n 0, 1) := by decide +kernel
theorem dX12_less_3 : decode cX12_less 3 = .ok (.aload_n 0, 1) := by decide +kernel
theorem dX12_less_4 : decode cX12_less 4 = .ok (.getfield 11, 3) := by decide +kernel
theorem dX12_less_7 : decode cX12_less 7 = .ok (.iconst 1, 1) := by decide +kernel
theorem dX12_less_8 : decode cX12_less 8 = .ok (.isub, 1) := by decide +kernel
theorem dX12_less_9 : decode cX12_less 9 = .ok (.iload_n 2, 1) := by decide +kernel
theorem dX12_less_10 : decode cX12_less 10 = .ok (.invokevirtual 119, 3) := by decide +kernel
theorem dX12_less_13 : decode cX12_less 13 = .ok (.invokevirtual 122, 3) := by decide +kernel
theorem dX12_less_16 : decode cX12_less 16 = .ok (.ireturn, 1) := by decide +kernel
theorem dX12_raise_0 : decode cX12_raise 0 = .ok (.lload_n 2, 1) := by decide +kernel
theorem dX12_raise_1 : decode cX12_raise 1 = .ok (.lconst 0, 1) := by decide +kernel
theorem dX12_raise_2 : decode cX12_raise 2 = .ok (.lcmp, 1) := by decide +kernel
theorem dX12_raise_3 : decode cX12_raise 3 = .ok (.ifCond .ne 7, 3) := by decide +kernel
theorem dX12_raise_6 : decode cX12_raise 6 = .ok (.iconst 1, 1) := by decide +kernel
theorem dX12_raise_7 : decode cX12_raise 7 = .ok (.goto 34, 3) := by decide +kernel
theorem dX12_raise_10 : decode cX12_raise 10 = .ok (.iload_n 1, 1) := by decide +kernel
theorem dX12_raise_11 : decode cX12_raise 11 = .ok (.ifCond .ne 7, 3) := by decide +kernel
theorem dX12_raise_14 : decode cX12_raise 14 = .ok (.iconst 0, 1) := by decide +kernel
theorem dX12_raise_15 : decode cX12_raise 15 = .ok (.goto 26, 3) := by decide +kernel
theorem dX12_raise_18 : decode cX12_raise 18 = .ok (.aload_n 0, 1) := by decide +kernel
theorem dX12_raise_19 : decode cX12_raise 19 = .ok (.getfield 55, 3) := by decide +kernel
theorem dX12_raise_22 : decode cX12_raise 22 = .ok (.aload_n 0, 1) := by decide +kernel
theorem dX12_raise_23 : decode cX12_raise 23 = .ok (.getfield 58, 3) := by decide +kernel
theorem dX12_raise_26 : decode cX12_raise 26 = .ok (.iload_n 1, 1) := by decide +kernel
theorem dX12_raise_27 : decode cX12_raise 27 = .ok (.iaload, 1) := by decide +kernel
theorem dX12_raise_28 : decode cX12_raise 28 = .ok (.i2l, 1) := by decide +kernel
theorem dX12_raise_29 : decode cX12_raise 29 = .ok (.lload_n 2, 1) := by decide +kernel
theorem dX12_raise_30 : decode cX12_raise 30 = .ok (.lmul, 1) := by decide +kernel
theorem dX12_raise_31 : decode cX12_raise 31 = .ok (.aload_n 0, 1) := by decide +kernel
theorem dX12_raise_32 : decode cX12_raise 32 = .ok (.getfield 109, 3) := by decide +kernel
theorem dX12_raise_35 : decode cX12_raise 35 = .ok (.iconst 1, 1) := by decide +kernel
theorem dX12_raise_36 : decode cX12_raise 36 = .ok (.isub, 1) := by decide +kernel
theorem dX12_raise_37 : decode cX12_raise 37 = .ok (.i2l, 1) := by decide +kernel
theorem dX12_raise_38 : decode cX12_raise 38 = .ok (.lrem, 1) := by decide +kernel
theorem dX12_raise_39 : decode cX12_raise 39 = .ok (.l2i, 1) := by decide +kernel
theorem dX12_raise_40 : decode cX12_raise 40 = .ok (.iaload, 1) := by decide +kernel
theorem dX12_raise_41 : decode cX12_raise 41 = .ok (.ireturn, 1) := by decide +kernel
set_option maxRecDepth 20000 in
theorem ggX12_far_X12_raise : GoodIn wsX12_far wsX12_raise := goodIn_r _ [7, 8, 9, 10, 11, 12, 13, 14, 15, 16, 17, 18, 19, 20, 21, 22, 23, 24, 25, 26, 27, 28, 29, 30, 31, 32, 33, 34, 35, 36, 37, 38, 39] (by decide +kernel) (by decide +kernel)
set_option maxRecDepth 20000 in
theorem gX12_far_X12_raise : GoodIn wsX12_far (wsV RX12 125 RX12 yX12_raise wsX12_raise) := goodIn_app (goodIn_of _ (by decide +kernel)) ggX12_far_X12_raise
theorem dX12_far_0 : decode cX12_far 0 = .ok (.iload_n 1, 1) := by decide +kernel
theorem dX12_far_1 : decode cX12_far 1 = .ok (.istore_n 3, 1) := by decide +kernel
theorem dX12_far_2 : decode cX12_far 2 = .ok (.iconst 0, 1) := by decide +kernel
theorem dX12_far_3 : decode cX12_far 3 = .ok (.istore 4, 2) := by decide +kernel
theorem dX12_far_5 : decode cX12_far 5 = .ok (.iload 4, 2) := by decide +kernel
theorem dX12_far_7 : decode cX12_far 7 = .ok (.iload_n 2, 1) := by decide +kernel
theorem dX12_far_8 : decode cX12_far 8 = .ok (.aload_n 0, 1) := by decide +kernel
theorem dX12_far_9 : decode cX12_far 9 = .ok (.getfield 42, 3) := by decide +kernel
theorem dX12_far_12 : decode cX12_far 12 = .ok (.irem, 1) := by decide +kernel
theorem dX12_far_13 : decode cX12_far 13 = .ok (.if_icmp .ge 20, 3) := by decide +kernel
theorem dX12_far_16 : decode cX12_far 16 = .ok (.aload_n 0, 1) := by decide +kernel
theorem dX12_far_17 : decode cX12_far 17 = .ok (.iload_n 3, 1) := by decide +kernel
theorem dX12_far_18 : decode cX12_far 18 = .ok (.aload_n 0, 1) := by decide +kernel
theorem dX12_far_19 : decode cX12_far 19 = .ok (.getfield 11, 3) := by decide +kernel
theorem dX12_far_22 : decode cX12_far 22 = .ok (.i2l, 1) := by decide +kernel
theorem dX12_far_23 : decode cX12_far 23 = .ok (.invokevirtual 125, 3) := by decide +kernel
theorem dX12_far_26 : decode cX12_far 26 = .ok (.istore_n 3, 1) := by decide +kernel
theorem dX12_far_27 : decode cX12_far 27 = .ok (.iinc 4 1, 3) := by decide +kernel
theorem dX12_far_30 : decode cX12_far 30 = .ok (.goto (-25), 3) := by decide +kernel
theorem dX12_far_33 : decode cX12_far 33 = .ok (.iload_n 3, 1) := by decide +kernel
theorem dX12_far_34 : decode cX12_far 34 = .ok (.ireturn, 1) := by decide +kernel
theorem dX12_inverse_0 : decode cX12_inverse 0 = .ok (.aload_n 0, 1) := by decide +kernel
theorem dX12_inverse_1 : decode cX12_inverse 1 = .ok (.getfield 55, 3) := by decide +kernel
theorem dX12_inverse_4 : decode cX12_inverse 4 = .ok (.aload_n 0, 1) := by decide +kernel
theorem dX12_inverse_5 : decode cX12_inverse 5 = .ok (.getfield 109, 3) := by decide +kernel
theorem dX12_inverse_8 : decode cX12_inverse 8 = .ok (.iconst 1, 1) := by decide +kernel
theorem dX12_inverse_9 : decode cX12_inverse 9 = .ok (.isub, 1) := by decide +kernel
theorem dX12_inverse_10 : decode cX12_inverse 10 = .ok (.aload_n 0, 1) := by decide +kernel
theorem dX12_inverse_11 : decode cX12_inverse 11 = .ok (.getfield 58, 3) := by decide +kernel
theorem dX12_inverse_14 : decode cX12_inverse 14 = .ok (.iload_n 1, 1) := by decide +kernel
theorem dX12_inverse_15 : decode cX12_inverse 15 = .ok (.iaload, 1) := by decide +kernel
theorem dX12_inverse_16 : decode cX12_inverse 16 = .ok (.isub, 1) := by decide +kernel
theorem dX12_inverse_17 : decode cX12_inverse 17 = .ok (.aload_n 0, 1) := by decide +kernel
theorem dX12_inverse_18 : decode cX12_inverse 18 = .ok (.getfield 109, 3) := by decide +kernel
theorem dX12_inverse_21 : decode cX12_inverse 21 = .ok (.iconst 1, 1) := by decide +kernel
theorem dX12_inverse_22 : decode cX12_inverse 22 = .ok (.isub, 1) := by decide +kernel
theorem dX12_inverse_23 : decode cX12_inverse 23 = .ok (.irem, 1) := by decide +kernel
theorem dX12_inverse_24 : decode cX12_inverse 24 = .ok (.iaload, 1) := by decide +kernel
theorem dX12_inverse_25 : decode cX12_inverse 25 = .ok (.ireturn, 1) := by decide +kernel
set_option maxRecDepth 20000 in
theorem ggX12_isElement_X12_in : GoodIn wsX12_isElement wsX12_in := goodIn_r _ [5] (by decide +kernel) (by decide +kernel)
set_option maxRecDepth 20000 in
theorem gX12_isElement_X12_in : GoodIn wsX12_isElement (va_wsS RX12 129 yX12_in wsX12_in) := goodIn_app (goodIn_of _ (by decide +kernel)) ggX12_isElement_X12_in
theorem dX12_isElement_0 : decode cX12_isElement 0 = .ok (.iload_n 1, 1) := by decide +kernel
theorem dX12_isElement_1 : decode cX12_isElement 1 = .ok (.i2l, 1) := by decide +kernel
theorem dX12_isElement_2 : decode cX12_isElement 2 = .ok (.lconst 0, 1) := by decide +kernel
theorem dX12_isElement_3 : decode cX12_isElement 3 = .ok (.aload_n 0, 1) := by decide +kernel
theorem dX12_isElement_4 : decode cX12_isElement 4 = .ok (.getfield 109, 3) := by decide +kernel
theorem dX12_isElement_7 : decode cX12_isElement 7 = .ok (.iconst 1, 1) := by decide +kernel
theorem dX12_isElement_8 : decode cX12_isElement 8 = .ok (.isub, 1) := by decide +kernel
theorem dX12_isElement_9 : decode cX12_isElement 9 = .ok (.i2l, 1) := by decide +kernel
theorem dX12_isElement_10 : decode cX12_isElement 10 = .ok (.invokestatic 129, 3) := by decide +kernel
theorem dX12_isElement_13 : decode cX12_isElement 13 = .ok (.ireturn, 1) := by decide +kernel
set_option maxRecDepth 20000 in
theorem ggX12_field_X12_isElement : GoodIn wsX12_field wsX12_isElement := goodIn_r _ [10, 11, 12, 13, 9, 14, 34, 35, 36, 37, 38, 39, 40, 41, 42, 43, 44, 45, 46, 47, 48, 49, 50, 51, 52, 53, 54, 55, 56, 57, 58, 59, 60, 61, 62] (by decide +kernel) (by decide +kernel)
set_option maxRecDepth 20000 in
theorem gX12_field_X12_isElement : GoodIn wsX12_field (wsV RX12 133 RX12 yX12_isElement wsX12_isElement) := goodIn_app (goodIn_of _ (by decide +kernel)) ggX12_field_X12_isElement
set_option maxRecDepth 20000 in
theorem ggX12_field_X12_in : GoodIn wsX12_field wsX12_in := goodIn_r _ [14] (by decide +kernel) (by decide +kernel)
set_option maxRecDepth 20000 in
theorem gX12_field_X12_in : GoodIn wsX12_field (va_wsS RX12 129 yX12_in wsX12_in) := goodIn_app (goodIn_of _ (by decide +kernel)) ggX12_field_X12_in
set_option maxRecDepth 20000 in
theorem ggX12_field_X12_add : GoodIn wsX12_field wsX12_add := goodIn_r _ [18, 19, 34, 35, 36, 37, 38, 39, 40, 41, 42, 43, 44, 45, 46, 47, 48, 49, 50, 51, 52, 53, 54, 55, 56, 57, 58, 59, 60, 61, 62] (by decide +kernel) (by decide +kernel)
set_option maxRecDepth 20000 in
theorem gX12_field_X12_add : GoodIn wsX12_field (wsV RX12 122 RX12 yX12_add wsX12_add) := goodIn_app (goodIn_of _ (by decide +kernel)) ggX12_field_X12_add
set_option maxRecDepth 20000 in
theorem ggX12_field_X12_times : GoodIn wsX12_field wsX12_times := goodIn_r _ [23, 24, 25, 11, 34, 35, 36, 37, 38, 39, 40, 41, 42, 43, 44, 45, 46, 47, 48, 49, 50, 51, 52, 53, 54, 55, 56, 57, 58, 59, 60, 61, 62] (by decide +kernel) (by decide +kernel)
set_option maxRecDepth 20000 in
theorem gX12_field_X12_times : GoodIn wsX12_field (wsV RX12 119 RX12 yX12_times wsX12_times) := goodIn_app (goodIn_of _ (by decide +kernel)) ggX12_field_X12_times
set_option maxRecDepth 20000 in
theorem ggX12_field_X12_raise : GoodIn wsX12_field wsX12_raise := goodIn_r _ [29, 24, 25, 11, 34, 35, 36, 37, 38, 39, 40, 41, 42, 43, 44, 45, 46, 47, 48, 49, 50, 51, 52, 53, 54, 55, 56, 57, 58, 59, 60, 61, 62] (by decide +kernel) (by decide +kernel)
set_option maxRecDepth 20000 in
theorem gX12_field_X12_raise : GoodIn wsX12_field (wsV RX12 125 RX12 yX12_raise wsX12_raise) := goodIn_app (goodIn_of _ (by decide +kernel)) ggX12_field_X12_raise
set_option maxRecDepth 20000 in
theorem ggX12_field_X12_inverse : GoodIn wsX12_field wsX12_inverse := goodIn_r _ [33, 24, 11, 25, 34, 35, 36, 37, 38, 39, 40, 41, 42, 43, 44, 45, 46, 47, 48, 49, 50, 51, 52, 53, 54, 55, 56, 57, 58, 59, 60, 61, 62] (by decide +kernel) (by decide +kernel)
set_option maxRecDepth 20000 in
theorem gX12_field_X12_inverse : GoodIn wsX12_field (wsV RX12 143 RX12 yX12_inverse wsX12_inverse) := goodIn_app (goodIn_of _ (by decide +kernel)) ggX12_field_X12_inverse
theorem dX12_field_0 : decode cX12_field 0 = .ok (.aload_n 0, 1) := by decide +kernel
theorem dX12_field_1 : decode cX12_field 1 = .ok (.iconst 0, 1) := by decide +kernel
theorem dX12_field_2 : decode cX12_field 2 = .ok (.putfield 1, 3) := by decide +kernel
theorem dX12_field_5 : decode cX12_field 5 = .ok (.aload_n 0, 1) := by decide +kernel
theorem dX12_field_6 : decode cX12_field 6 = .ok (.iload_n 1, 1) := by decide +kernel
theorem dX12_field_7 : decode cX12_field 7 = .ok (.invokevirtual 133, 3) := by decide +kernel
theorem dX12_field_10 : decode cX12_field 10 = .ok (.ifCond .eq 43, 3) := by decide +kernel
theorem dX12_field_13 : decode cX12_field 13 = .ok (.iload_n 3, 1) := by decide +kernel
theorem dX12_field_14 : decode cX12_field 14 = .ok (.i2l, 1) := by decide +kernel
theorem dX12_field_15 : decode cX12_field 15 = .ok (.lconst 0, 1) := by decide +kernel
theorem dX12_field_16 : decode cX12_field 16 = .ok (.ldc2_w 137, 3) := by decide +kernel
theorem dX12_field_19 : decode cX12_field 19 = .ok (.invokestatic 129, 3) := by decide +kernel
theorem dX12_field_22 : decode cX12_field 22 = .ok (.ifCond .eq 31, 3) := by decide +kernel
theorem dX12_field_25 : decode cX12_field 25 = .ok (.iload_n 3, 1) := by decide +kernel
theorem dX12_field_26 : decode cX12_field 26 = .ok (.iconst 2, 1) := by decide +kernel
theorem dX12_field_27 : decode cX12_field 27 = .ok (.if_icmp .ne 18, 3) := by decide +kernel
theorem dX12_field_30 : decode cX12_field 30 = .ok (.iload_n 2, 1) := by decide +kernel
theorem dX12_field_31 : decode cX12_field 31 = .ok (.i2l, 1) := by decide +kernel
theorem dX12_field_32 : decode cX12_field 32 = .ok (.lconst 0, 1) := by decide +kernel
theorem dX12_field_33 : decode cX12_field 33 = .ok (.ldc2_w 139, 3) := by decide +kernel
theorem dX12_field_36 : decode cX12_field 36 = .ok (.invokestatic 129, 3) := by decide +kernel
theorem dX12_field_39 : decode cX12_field 39 = .ok (.ifCond .ne 17, 3) := by decide +kernel
theorem dX12_field_42 : decode cX12_field 42 = .ok (.goto 11, 3) := by decide +kernel
theorem dX12_field_45 : decode cX12_field 45 = .ok (.aload_n 0, 1) := by decide +kernel
theorem dX12_field_46 : decode cX12_field 46 = .ok (.iload_n 2, 1) := by decide +kernel
theorem dX12_field_47 : decode cX12_field 47 = .ok (.invokevirtual 133, 3) := by decide +kernel
theorem dX12_field_50 : decode cX12_field 50 = .ok (.ifCond .ne 6, 3) := by decide +kernel
theorem dX12_field_53 : decode cX12_field 53 = .ok (.ldc 141, 2) := by decide +kernel
theorem dX12_field_55 : decode cX12_field 55 = .ok (.ireturn, 1) := by decide +kernel
theorem dX12_field_56 : decode cX12_field 56 = .ok (.iload_n 3, 1) := by decide +kernel
theorem dX12_field_57 : decode cX12_field 57 = .ok (.ifCond .ne 12, 3) := by decide +kernel
theorem dX12_field_60 : decode cX12_field 60 = .ok (.aload_n 0, 1) := by decide +kernel
theorem dX12_field_61 : decode cX12_field 61 = .ok (.iload_n 1, 1) := by decide +kernel
theorem dX12_field_62 : decode cX12_field 62 = .ok (.iload_n 2, 1) := by decide +kernel
theorem dX12_field_63 : decode cX12_field 63 = .ok (.invokevirtual 122, 3) := by decide +kernel
theorem dX12_field_66 : decode cX12_field 66 = .ok (.goto 51, 3) := by decide +kernel
theorem dX12_field_69 : decode cX12_field 69 = .ok (.iload_n 3, 1) := by decide +kernel
theorem dX12_field_70 : decode cX12_field 70 = .ok (.iconst 1, 1) := by decide +kernel
theorem dX12_field_71 : decode cX12_field 71 = .ok (.if_icmp .ne 12, 3) := by decide +kernel
theorem dX12_field_74 : decode cX12_field 74 = .ok (.aload_n 0, 1) := by decide +kernel
theorem dX12_field_75 : decode cX12_field 75 = .ok (.iload_n 1, 1) := by decide +kernel
theorem dX12_field_76 : decode cX12_field 76 = .ok (.iload_n 2, 1) := by decide +kernel
theorem dX12_field_77 : decode cX12_field 77 = .ok (.invokevirtual 119, 3) := by decide +kernel
theorem dX12_field_80 : decode cX12_field 80 = .ok (.goto 37, 3) := by decide +kernel
theorem dX12_field_83 : decode cX12_field 83 = .ok (.iload_n 3, 1) := by decide +kernel
theorem dX12_field_84 : decode cX12_field 84 = .ok (.iconst 2, 1) := by decide +kernel
theorem dX12_field_85 : decode cX12_field 85 = .ok (.if_icmp .ne 13, 3) := by decide +kernel
theorem dX12_field_88 : decode cX12_field 88 = .ok (.aload_n 0, 1) := by decide +kernel
theorem dX12_field_89 : decode cX12_field 89 = .ok (.iload_n 1, 1) := by decide +kernel
theorem dX12_field_90 : decode cX12_field 90 = .ok (.iload_n 2, 1) := by decide +kernel
theorem dX12_field_91 : decode cX12_field 91 = .ok (.i2l, 1) := by decide +kernel
theorem dX12_field_92 : decode cX12_field 92 = .ok (.invokevirtual 125, 3) := by decide +kernel
theorem dX12_field_95 : decode cX12_field 95 = .ok (.goto 22, 3) := by decide +kernel
theorem dX12_field_98 : decode cX12_field 98 = .ok (.iload_n 2, 1) := by decide +kernel
theorem dX12_field_99 : decode cX12_field 99 = .ok (.ifCond .ne 8, 3) := by decide +kernel
theorem dX12_field_102 : decode cX12_field 102 = .ok (.ldc 142, 2) := by decide +kernel
theorem dX12_field_104 : decode cX12_field 104 = .ok (.goto 13, 3) := by decide +kernel
theorem dX12_field_107 : decode cX12_field 107 = .ok (.aload_n 0, 1) := by decide +kernel
theorem dX12_field_108 : decode cX12_field 108 = .ok (.iload_n 1, 1) := by decide +kernel
theorem dX12_field_109 : decode cX12_field 109 = .ok (.aload_n 0, 1) := by decide +kernel
theorem dX12_field_110 : decode cX12_field 110 = .ok (.iload_n 2, 1) := by decide +kernel
theorem dX12_field_111 : decode cX12_field 111 = .ok (.invokevirtual 143, 3) := by decide +kernel
theorem dX12_field_114 : decode cX12_field 114 = .ok (.invokevirtual 119, 3) := by decide +kernel
theorem dX12_field_117 : decode cX12_field 117 = .ok (.ireturn, 1) := by decide +kernel
set_option maxRecDepth 20000 in
theorem ggX12_isRow_X12_in : GoodIn wsX12_isRow wsX12_in := goodIn_r _ [5] (by decide +kernel) (by decide +kernel)
set_option maxRecDepth 20000 in
theorem gX12_isRow_X12_in : GoodIn wsX12_isRow (va_wsS RX12 129 yX12_in wsX12_in) := goodIn_app (goodIn_of _ (by decide +kernel)) ggX12_isRow_X12_in
theorem dX12_isRow_0 : decode cX12_isRow 0 = .ok (.iload_n 0, 1) := by decide +kernel
theorem dX12_isRow_1 : decode cX12_isRow 1 = .ok (.i2l, 1) := by decide +kernel
theorem dX12_isRow_2 : decode cX12_isRow 2 = .ok (.lconst 0, 1) := by decide +kernel
theorem dX12_isRow_3 : decode cX12_isRow 3 = .ok (.ldc2_w 147, 3) := by decide +kernel
theorem dX12_isRow_6 : decode cX12_isRow 6 = .ok (.invokestatic 129, 3) := by decide +kernel
theorem dX12_isRow_9 : decode cX12_isRow 9 = .ok (.ireturn, 1) := by decide +kernel
set_option maxRecDepth 20000 in
theorem ggX12_row_X12_isRow : GoodIn wsX12_row wsX12_isRow := goodIn_r _ [11, 12, 13, 14, 10, 15] (by decide +kernel) (by decide +kernel)
set_option maxRecDepth 20000 in
theorem gX12_row_X12_isRow : GoodIn wsX12_row (va_wsS RX12 149 yX12_isRow wsX12_isRow) := goodIn_app (goodIn_of _ (by decide +kernel)) ggX12_row_X12_isRow
set_option maxRecDepth 20000 in
theorem ggX12_row_X12_in : GoodIn wsX12_row wsX12_in := goodIn_r _ [15] (by decide +kernel) (by decide +kernel)
set_option maxRecDepth 20000 in
theorem gX12_row_X12_in : GoodIn wsX12_row (va_wsS RX12 129 yX12_in wsX12_in) := goodIn_app (goodIn_of _ (by decide +kernel)) ggX12_row_X12_in
set_option maxRecDepth 20000 in
theorem ggX12_row_X12_found : GoodIn wsX12_row wsX12_found := goodIn_r _ [19, 4, 20, 21, 22, 23, 24, 25, 26, 27, 28, 29, 30, 31, 32, 33, 34, 35, 36, 37, 38, 39, 40, 41, 42, 43, 44, 45, 46, 47, 48, 49] (by decide +kernel) (by decide +kernel)
set_option maxRecDepth 20000 in
theorem gX12_row_X12_found : GoodIn wsX12_row (wsV RX12 154 RX12 yX12_found wsX12_found) := goodIn_app (goodIn_of _ (by decide +kernel)) ggX12_row_X12_found
theorem dX12_row_0 : decode cX12_row 0 = .ok (.aload_n 0, 1) := by decide +kernel
theorem dX12_row_1 : decode cX12_row 1 = .ok (.iconst 0, 1) := by decide +kernel
theorem dX12_row_2 : decode cX12_row 2 = .ok (.putfield 1, 3) := by decide +kernel
theorem dX12_row_5 : decode cX12_row 5 = .ok (.iload_n 1, 1) := by decide +kernel
theorem dX12_row_6 : decode cX12_row 6 = .ok (.invokestatic 149, 3) := by decide +kernel
theorem dX12_row_9 : decode cX12_row 9 = .ok (.ifCond .eq 21, 3) := by decide +kernel
theorem dX12_row_12 : decode cX12_row 12 = .ok (.iload_n 2, 1) := by decide +kernel
theorem dX12_row_13 : decode cX12_row 13 = .ok (.i2l, 1) := by decide +kernel
theorem dX12_row_14 : decode cX12_row 14 = .ok (.lconst 0, 1) := by decide +kernel
theorem dX12_row_15 : decode cX12_row 15 = .ok (.ldc2_w 152, 3) := by decide +kernel
theorem dX12_row_18 : decode cX12_row 18 = .ok (.invokestatic 129, 3) := by decide +kernel
theorem dX12_row_21 : decode cX12_row 21 = .ok (.ifCond .eq 9, 3) := by decide +kernel
theorem dX12_row_24 : decode cX12_row 24 = .ok (.iload_n 3, 1) := by decide +kernel
theorem dX12_row_25 : decode cX12_row 25 = .ok (.bipush 24, 2) := by decide +kernel
theorem dX12_row_27 : decode cX12_row 27 = .ok (.if_icmp .le 6, 3) := by decide +kernel
theorem dX12_row_30 : decode cX12_row 30 = .ok (.ldc 141, 2) := by decide +kernel
theorem dX12_row_32 : decode cX12_row 32 = .ok (.ireturn, 1) := by decide +kernel
theorem dX12_row_33 : decode cX12_row 33 = .ok (.aload_n 0, 1) := by decide +kernel
theorem dX12_row_34 : decode cX12_row 34 = .ok (.iconst 0, 1) := by decide +kernel
theorem dX12_row_35 : decode cX12_row 35 = .ok (.putfield 7, 3) := by decide +kernel
theorem dX12_row_38 : decode cX12_row 38 = .ok (.iload_n 3, 1) := by decide +kernel
theorem dX12_row_39 : decode cX12_row 39 = .ok (.ifCond .ge 9, 3) := by decide +kernel
theorem dX12_row_42 : decode cX12_row 42 = .ok (.aload_n 0, 1) := by decide +kernel
theorem dX12_row_43 : decode cX12_row 43 = .ok (.iconst 4, 1) := by decide +kernel
theorem dX12_row_44 : decode cX12_row 44 = .ok (.invokevirtual 154, 3) := by decide +kernel
theorem dX12_row_47 : decode cX12_row 47 = .ok (.ireturn, 1) := by decide +kernel
theorem dX12_row_48 : decode cX12_row 48 = .ok (.aload_n 0, 1) := by decide +kernel
theorem dX12_row_49 : decode cX12_row 49 = .ok (.getfield 61, 3) := by decide +kernel
theorem dX12_row_52 : decode cX12_row 52 = .ok (.iload_n 1, 1) := by decide +kernel
theorem dX12_row_53 : decode cX12_row 53 = .ok (.iload_n 2, 1) := by decide +kernel
theorem dX12_row_54 : decode cX12_row 54 = .ok (.iastore, 1) := by decide +kernel
theorem dX12_row_55 : decode cX12_row 55 = .ok (.aload_n 0, 1) := by decide +kernel
theorem dX12_row_56 : decode cX12_row 56 = .ok (.getfield 64, 3) := by decide +kernel
theorem dX12_row_59 : decode cX12_row 59 = .ok (.iload_n 1, 1) := by decide +kernel
theorem dX12_row_60 : decode cX12_row 60 = .ok (.iload_n 3, 1) := by decide +kernel
theorem dX12_row_61 : decode cX12_row 61 = .ok (.iastore, 1) := by decide +kernel
theorem dX12_row_62 : decode cX12_row 62 = .ok (.iconst 0, 1) := by decide +kernel
theorem dX12_row_63 : decode cX12_row 63 = .ok (.istore 4, 2) := by decide +kernel
theorem dX12_row_65 : decode cX12_row 65 = .ok (.iload 4, 2) := by decide +kernel
theorem dX12_row_67 : decode cX12_row 67 = .ok (.bipush 24, 2) := by decide +kernel
theorem dX12_row_69 : decode cX12_row 69 = .ok (.if_icmp .ge 22, 3) := by decide +kernel
theorem dX12_row_72 : decode cX12_row 72 = .ok (.aload_n 0, 1) := by decide +kernel
theorem dX12_row_73 : decode cX12_row 73 = .ok (.getfield 67, 3) := by decide +kernel
theorem dX12_row_76 : decode cX12_row 76 = .ok (.bipush 24, 2) := by decide +kernel
theorem dX12_row_78 : decode cX12_row 78 = .ok (.iload_n 1, 1) := by decide +kernel
theorem dX12_row_79 : decode cX12_row 79 = .ok (.imul, 1) := by decide +kernel
theorem dX12_row_80 : decode cX12_row 80 = .ok (.iload 4, 2) := by decide +kernel
theorem dX12_row_82 : decode cX12_row 82 = .ok (.iadd, 1) := by decide +kernel
theorem dX12_row_83 : decode cX12_row 83 = .ok (.iconst 0, 1) := by decide +kernel
theorem dX12_row_84 : decode cX12_row 84 = .ok (.iastore, 1) := by decide +kernel
theorem dX12_row_85 : decode cX12_row 85 = .ok (.iinc 4 1, 3) := by decide +kernel
theorem dX12_row_88 : decode cX12_row 88 = .ok (.goto (-23), 3) := by decide +kernel
theorem dX12_row_91 : decode cX12_row 91 = .ok (.iload_n 3, 1) := by decide +kernel
theorem dX12_row_92 : decode cX12_row 92 = .ok (.ireturn, 1) := by decide +kernel
set_option maxRecDepth 20000 in
theorem ggX12_set_X12_isRow : GoodIn wsX12_set wsX12_isRow := goodIn_r _ [10, 11, 12, 13, 9, 14] (by decide +kernel) (by decide +kernel)
set_option maxRecDepth 20000 in
theorem gX12_set_X12_isRow : GoodIn wsX12_set (va_wsS RX12 149 yX12_isRow wsX12_isRow) := goodIn_app (goodIn_of _ (by decide +kernel)) ggX12_set_X12_isRow
set_option maxRecDepth 20000 in
theorem ggX12_set_X12_found : GoodIn wsX12_set wsX12_found := goodIn_r _ [18, 3, 19, 20, 21, 22, 23, 24, 25, 26, 27, 28, 29, 30, 31, 32, 33, 34, 35, 36, 37, 38, 39, 40, 41, 42, 43, 44, 45, 46, 47, 48] (by decide +kernel) (by decide +kernel)
set_option maxRecDepth 20000 in
theorem gX12_set_X12_found : GoodIn wsX12_set (wsV RX12 154 RX12 yX12_found wsX12_found) := goodIn_app (goodIn_of _ (by decide +kernel)) ggX12_set_X12_found
set_option maxRecDepth 20000 in
theorem ggX12_set_X12_in : GoodIn wsX12_set wsX12_in := goodIn_r _ [14] (by decide +kernel) (by decide +kernel)
set_option maxRecDepth 20000 in
theorem gX12_set_X12_in : GoodIn wsX12_set (va_wsS RX12 129 yX12_in wsX12_in) := goodIn_app (goodIn_of _ (by decide +kernel)) ggX12_set_X12_in
theorem dX12_set_0 : decode cX12_set 0 = .ok (.aload_n 0, 1) := by decide +kernel
theorem dX12_set_1 : decode cX12_set 1 = .ok (.iconst 0, 1) := by decide +kernel
theorem dX12_set_2 : decode cX12_set 2 = .ok (.putfield 1, 3) := by decide +kernel
theorem dX12_set_5 : decode cX12_set 5 = .ok (.iload_n 1, 1) := by decide +kernel
theorem dX12_set_6 : decode cX12_set 6 = .ok (.invokestatic 149, 3) := by decide +kernel
theorem dX12_set_9 : decode cX12_set 9 = .ok (.ifCond .ne 6, 3) := by decide +kernel
theorem dX12_set_12 : decode cX12_set 12 = .ok (.ldc 141, 2) := by decide +kernel
theorem dX12_set_14 : decode cX12_set 14 = .ok (.ireturn, 1) := by decide +kernel
theorem dX12_set_15 : decode cX12_set 15 = .ok (.aload_n 0, 1) := by decide +kernel
theorem dX12_set_16 : decode cX12_set 16 = .ok (.iconst 0, 1) := by decide +kernel
theorem dX12_set_17 : decode cX12_set 17 = .ok (.putfield 7, 3) := by decide +kernel
theorem dX12_set_20 : decode cX12_set 20 = .ok (.aload_n 0, 1) := by decide +kernel
theorem dX12_set_21 : decode cX12_set 21 = .ok (.getfield 61, 3) := by decide +kernel
theorem dX12_set_24 : decode cX12_set 24 = .ok (.iload_n 1, 1) := by decide +kernel
theorem dX12_set_25 : decode cX12_set 25 = .ok (.iaload, 1) := by decide +kernel
theorem dX12_set_26 : decode cX12_set 26 = .ok (.ifCond .ge 9, 3) := by decide +kernel
theorem dX12_set_29 : decode cX12_set 29 = .ok (.aload_n 0, 1) := by decide +kernel
theorem dX12_set_30 : decode cX12_set 30 = .ok (.iconst 1, 1) := by decide +kernel
theorem dX12_set_31 : decode cX12_set 31 = .ok (.invokevirtual 154, 3) := by decide +kernel
theorem dX12_set_34 : decode cX12_set 34 = .ok (.ireturn, 1) := by decide +kernel
theorem dX12_set_35 : decode cX12_set 35 = .ok (.iload_n 2, 1) := by decide +kernel
theorem dX12_set_36 : decode cX12_set 36 = .ok (.i2l, 1) := by decide +kernel
theorem dX12_set_37 : decode cX12_set 37 = .ok (.lconst 0, 1) := by decide +kernel
theorem dX12_set_38 : decode cX12_set 38 = .ok (.aload_n 0, 1) := by decide +kernel
theorem dX12_set_39 : decode cX12_set 39 = .ok (.getfield 64, 3) := by decide +kernel
theorem dX12_set_42 : decode cX12_set 42 = .ok (.iload_n 1, 1) := by decide +kernel
theorem dX12_set_43 : decode cX12_set 43 = .ok (.iaload, 1) := by decide +kernel
theorem dX12_set_44 : decode cX12_set 44 = .ok (.iconst 1, 1) := by decide +kernel
theorem dX12_set_45 : decode cX12_set 45 = .ok (.isub, 1) := by decide +kernel
theorem dX12_set_46 : decode cX12_set 46 = .ok (.i2l, 1) := by decide +kernel
theorem dX12_set_47 : decode cX12_set 47 = .ok (.invokestatic 129, 3) := by decide +kernel
theorem dX12_set_50 : decode cX12_set 50 = .ok (.ifCond .ne 9, 3) := by decide +kernel
theorem dX12_set_53 : decode cX12_set 53 = .ok (.aload_n 0, 1) := by decide +kernel
theorem dX12_set_54 : decode cX12_set 54 = .ok (.iconst 2, 1) := by decide +kernel
theorem dX12_set_55 : decode cX12_set 55 = .ok (.invokevirtual 154, 3) := by decide +kernel
theorem dX12_set_58 : decode cX12_set 58 = .ok (.ireturn, 1) := by decide +kernel
theorem dX12_set_59 : decode cX12_set 59 = .ok (.aload_n 0, 1) := by decide +kernel
theorem dX12_set_60 : decode cX12_set 60 = .ok (.getfield 67, 3) := by decide +kernel
theorem dX12_set_63 : decode cX12_set 63 = .ok (.bipush 24, 2) := by decide +kernel
theorem dX12_set_65 : decode cX12_set 65 = .ok (.iload_n 1, 1) := by decide +kernel
theorem dX12_set_66 : decode cX12_set 66 = .ok (.imul, 1) := by decide +kernel
theorem dX12_set_67 : decode cX12_set 67 = .ok (.iload_n 2, 1) := by decide +kernel
theorem dX12_set_68 : decode cX12_set 68 = .ok (.iadd, 1) := by decide +kernel
theorem dX12_set_69 : decode cX12_set 69 = .ok (.aload_n 0, 1) := by decide +kernel
theorem dX12_set_70 : decode cX12_set 70 = .ok (.getfield 61, 3) := by decide +kernel
theorem dX12_set_73 : decode cX12_set 73 = .ok (.iload_n 1, 1) := by decide +kernel
theorem dX12_set_74 : decode cX12_set 74 = .ok (.iaload, 1) := by decide +kernel
theorem dX12_set_75 : decode cX12_set 75 = .ok (.ifCond .ne 8, 3) := by decide +kernel
theorem dX12_set_78 : decode cX12_set 78 = .ok (.iload_n 3, 1) := by decide +kernel
theorem dX12_set_79 : decode cX12_set 79 = .ok (.i2b, 1) := by decide +kernel
theorem dX12_set_80 : decode cX12_set 80 = .ok (.goto 19, 3) := by decide +kernel
theorem dX12_set_83 : decode cX12_set 83 = .ok (.aload_n 0, 1) := by decide +kernel
theorem dX12_set_84 : decode cX12_set 84 = .ok (.getfield 61, 3) := by decide +kernel
theorem dX12_set_87 : decode cX12_set 87 = .ok (.iload_n 1, 1) := by decide +kernel
theorem dX12_set_88 : decode cX12_set 88 = .ok (.iaload, 1) := by decide +kernel
theorem dX12_set_89 : decode cX12_set 89 = .ok (.iconst 1, 1) := by decide +kernel
theorem dX12_set_90 : decode cX12_set 90 = .ok (.if_icmp .ne 8, 3) := by decide +kernel
theorem dX12_set_93 : decode cX12_set 93 = .ok (.iload_n 3, 1) := by decide +kernel
theorem dX12_set_94 : decode cX12_set 94 = .ok (.i2s, 1) := by decide +kernel
theorem dX12_set_95 : decode cX12_set 95 = .ok (.goto 4, 3) := by decide +kernel
theorem dX12_set_98 : decode cX12_set 98 = .ok (.iload_n 3, 1) := by decide +kernel
theorem dX12_set_99 : decode cX12_set 99 = .ok (.iastore, 1) := by decide +kernel
theorem dX12_set_100 : decode cX12_set 100 = .ok (.aload_n 0, 1) := by decide +kernel
theorem dX12_set_101 : decode cX12_set 101 = .ok (.getfield 67, 3) := by decide +kernel
theorem dX12_set_104 : decode cX12_set 104 = .ok (.bipush 24, 2) := by decide +kernel
theorem dX12_set_106 : decode cX12_set 106 = .ok (.iload_n 1, 1) := by decide +kernel
theorem dX12_set_107 : decode cX12_set 107 = .ok (.imul, 1) := by decide +kernel
theorem dX12_set_108 : decode cX12_set 108 = .ok (.iload_n 2, 1) := by decide +kernel
theorem dX12_set_109 : decode cX12_set 109 = .ok (.iadd, 1) := by decide +kernel
theorem dX12_set_110 : decode cX12_set 110 = .ok (.iaload, 1) := by decide +kernel
theorem dX12_set_111 : decode cX12_set 111 = .ok (.ireturn, 1) := by decide +kernel
set_option maxRecDepth 20000 in
theorem ggX12_copy_X12_isRow : GoodIn wsX12_copy wsX12_isRow := goodIn_r _ [10, 11, 12, 13, 9, 14] (by decide +kernel) (by decide +kernel)
set_option maxRecDepth 20000 in
theorem gX12_copy_X12_isRow : GoodIn wsX12_copy (va_wsS RX12 149 yX12_isRow wsX12_isRow) := goodIn_app (goodIn_of _ (by decide +kernel)) ggX12_copy_X12_isRow
set_option maxRecDepth 20000 in
theorem ggX12_copy_X12_found : GoodIn wsX12_copy wsX12_found := goodIn_r _ [18, 3, 19, 20, 21, 22, 23, 24, 25, 26, 27, 28, 29, 30, 31, 32, 33, 34, 35, 36, 37, 38, 39, 40, 41, 42, 43, 44, 45, 46, 47, 48] (by decide +kernel) (by decide +kernel)
set_option maxRecDepth 20000 in
theorem gX12_copy_X12_found : GoodIn wsX12_copy (wsV RX12 154 RX12 yX12_found wsX12_found) := goodIn_app (goodIn_of _ (by decide +kernel)) ggX12_copy_X12_found
theorem dX12_copy_0 : decode cX12_copy 0 = .ok (.aload_n 0, 1) := by decide +kernel
theorem dX12_copy_1 : decode cX12_copy 1 = .ok (.iconst 0, 1) := by decide +kernel
theorem dX12_copy_2 : decode cX12_copy 2 = .ok (.putfield 1, 3) := by decide +kernel
theorem dX12_copy_5 : decode cX12_copy 5 = .ok (.iload_n 1, 1) := by decide +kernel
theorem dX12_copy_6 : decode cX12_copy 6 = .ok (.invokestatic 149, 3) := by decide +kernel
theorem dX12_copy_9 : decode cX12_copy 9 = .ok (.ifCond .eq 10, 3) := by decide +kernel
theorem dX12_copy_12 : decode cX12_copy 12 = .ok (.iload_n 3, 1) := by decide +kernel
theorem dX12_copy_13 : decode cX12_copy 13 = .ok (.invokestatic 149, 3) := by decide +kernel
theorem dX12_copy_16 : decode cX12_copy 16 = .ok (.ifCond .ne 6, 3) := by decide +kernel
theorem dX12_copy_19 : decode cX12_copy 19 = .ok (.ldc 141, 2) := by decide +kernel
theorem dX12_copy_21 : decode cX12_copy 21 = .ok (.ireturn, 1) := by decide +kernel
theorem dX12_copy_22 : decode cX12_copy 22 = .ok (.aload_n 0, 1) := by decide +kernel
theorem dX12_copy_23 : decode cX12_copy 23 = .ok (.iconst 0, 1) := by decide +kernel
theorem dX12_copy_24 : decode cX12_copy 24 = .ok (.putfield 7, 3) := by decide +kernel
theorem dX12_copy_27 : decode cX12_copy 27 = .ok (.aload_n 0, 1) := by decide +kernel
theorem dX12_copy_28 : decode cX12_copy 28 = .ok (.getfield 61, 3) := by decide +kernel
theorem dX12_copy_31 : decode cX12_copy 31 = .ok (.iload_n 1, 1) := by decide +kernel
theorem dX12_copy_32 : decode cX12_copy 32 = .ok (.iaload, 1) := by decide +kernel
theorem dX12_copy_33 : decode cX12_copy 33 = .ok (.ifCond .lt 12, 3) := by decide +kernel
theorem dX12_copy_36 : decode cX12_copy 36 = .ok (.aload_n 0, 1) := by decide +kernel
theorem dX12_copy_37 : decode cX12_copy 37 = .ok (.getfield 61, 3) := by decide +kernel
theorem dX12_copy_40 : decode cX12_copy 40 = .ok (.iload_n 3, 1) := by decide +kernel
theorem dX12_copy_41 : decode cX12_copy 41 = .ok (.iaload, 1) := by decide +kernel
theorem dX12_copy_42 : decode cX12_copy 42 = .ok (.ifCond .ge 9, 3) := by decide +kernel
theorem dX12_copy_45 : decode cX12_copy 45 = .ok (.aload_n 0, 1) := by decide +kernel
theorem dX12_copy_46 : decode cX12_copy 46 = .ok (.iconst 1, 1) := by decide +kernel
theorem dX12_copy_47 : decode cX12_copy 47 = .ok (.invokevirtual 154, 3) := by decide +kernel
theorem dX12_copy_50 : decode cX12_copy 50 = .ok (.ireturn, 1) := by decide +kernel
theorem dX12_copy_51 : decode cX12_copy 51 = .ok (.aload_n 0, 1) := by decide +kernel
theorem dX12_copy_52 : decode cX12_copy 52 = .ok (.getfield 61, 3) := by decide +kernel
theorem dX12_copy_55 : decode cX12_copy 55 = .ok (.iload_n 1, 1) := by decide +kernel
theorem dX12_copy_56 : decode cX12_copy 56 = .ok (.iaload, 1) := by decide +kernel
theorem dX12_copy_57 : decode cX12_copy 57 = .ok (.aload_n 0, 1) := by decide +kernel
theorem dX12_copy_58 : decode cX12_copy 58 = .ok (.getfield 61, 3) := by decide +kernel
theorem dX12_copy_61 : decode cX12_copy 61 = .ok (.iload_n 3, 1) := by decide +kernel
theorem dX12_copy_62 : decode cX12_copy 62 = .ok (.iaload, 1) := by decide +kernel
theorem dX12_copy_63 : decode cX12_copy 63 = .ok (.if_icmp .eq 9, 3) := by decide +kernel
theorem dX12_copy_66 : decode cX12_copy 66 = .ok (.aload_n 0, 1) := by decide +kernel
theorem dX12_copy_67 : decode cX12_copy 67 = .ok (.iconst 5, 1) := by decide +kernel
theorem dX12_copy_68 : decode cX12_copy 68 = .ok (.invokevirtual 154, 3) := by decide +kernel
theorem dX12_copy_71 : decode cX12_copy 71 = .ok (.ireturn, 1) := by decide +kernel
theorem dX12_copy_72 : decode cX12_copy 72 = .ok (.iload_n 2, 1) := by decide +kernel
theorem dX12_copy_73 : decode cX12_copy 73 = .ok (.ifCond .lt 48, 3) := by decide +kernel
theorem dX12_copy_76 : decode cX12_copy 76 = .ok (.iload 4, 2) := by decide +kernel
theorem dX12_copy_78 : decode cX12_copy 78 = .ok (.ifCond .lt 43, 3) := by decide +kernel
theorem dX12_copy_81 : decode cX12_copy 81 = .ok (.iload 5, 2) := by decide +kernel
theorem dX12_copy_83 : decode cX12_copy 83 = .ok (.ifCond .lt 38, 3) := by decide +kernel
theorem dX12_copy_86 : decode cX12_copy 86 = .ok (.iload_n 2, 1) := by decide +kernel
theorem dX12_copy_87 : decode cX12_copy 87 = .ok (.i2l, 1) := by decide +kernel
theorem dX12_copy_88 : decode cX12_copy 88 = .ok (.iload 5, 2) := by decide +kernel
theorem dX12_copy_90 : decode cX12_copy 90 = .ok (.i2l, 1) := by decide +kernel
theorem dX12_copy_91 : decode cX12_copy 91 = .ok (.ladd, 1) := by decide +kernel
theorem dX12_copy_92 : decode cX12_copy 92 = .ok (.aload_n 0, 1) := by decide +kernel
theorem dX12_copy_93 : decode cX12_copy 93 = .ok (.getfield 64, 3) := by decide +kernel
theorem dX12_copy_96 : decode cX12_copy 96 = .ok (.iload_n 1, 1) := by decide +kernel
theorem dX12_copy_97 : decode cX12_copy 97 = .ok (.iaload, 1) := by decide +kernel
theorem dX12_copy_98 : decode cX12_copy 98 = .ok (.i2l, 1) := by decide +kernel
theorem dX12_copy_99 : decode cX12_copy 99 = .ok (.lcmp, 1) := by decide +kernel
theorem dX12_copy_100 : decode cX12_copy 100 = .ok (.ifCond .gt 21, 3) := by decide +kernel
theorem dX12_copy_103 : decode cX12_copy 103 = .ok (.iload 4, 2) := by decide +kernel
theorem dX12_copy_105 : decode cX12_copy 105 = .ok (.i2l, 1) := by decide +kernel
theorem dX12_copy_106 : decode cX12_copy 106 = .ok (.iload 5, 2) := by decide +kernel
theorem dX12_copy_108 : decode cX12_copy 108 = .ok (.i2l, 1) := by decide +kernel
theorem dX12_copy_109 : decode cX12_copy 109 = .ok (.ladd, 1) := by decide +kernel
theorem dX12_copy_110 : decode cX12_copy 110 = .ok (.aload_n 0, 1) := by decide +kernel
theorem dX12_copy_111 : decode cX12_copy 111 = .ok (.getfield 64, 3) := by decide +kernel
theorem dX12_copy_114 : decode cX12_copy 114 = .ok (.iload_n 3, 1) := by decide +kernel
theorem dX12_copy_115 : decode cX12_copy 115 = .ok (.iaload, 1) := by decide +kernel
theorem dX12_copy_116 : decode cX12_copy 116 = .ok (.i2l, 1) := by decide +kernel
theorem dX12_copy_117 : decode cX12_copy 117 = .ok (.lcmp, 1) := by decide +kernel
theorem dX12_copy_118 : decode cX12_copy 118 = .ok (.ifCond .le 9, 3) := by decide +kernel
theorem dX12_copy_121 : decode cX12_copy 121 = .ok (.aload_n 0, 1) := by decide +kernel
theorem dX12_copy_122 : decode cX12_copy 122 = .ok (.iconst 2, 1) := by decide +kernel
theorem dX12_copy_123 : decode cX12_copy 123 = .ok (.invokevirtual 154, 3) := by decide +kernel
theorem dX12_copy_126 : decode cX12_copy 126 = .ok (.ireturn, 1) := by decide +kernel
theorem dX12_copy_127 : decode cX12_copy 127 = .ok (.iload_n 2, 1) := by decide +kernel
theorem dX12_copy_128 : decode cX12_copy 128 = .ok (.iload 4, 2) := by decide +kernel
theorem dX12_copy_130 : decode cX12_copy 130 = .ok (.if_icmp .lt 7, 3) := by decide +kernel
theorem dX12_copy_133 : decode cX12_copy 133 = .ok (.iconst 1, 1) := by decide +kernel
theorem dX12_copy_134 : decode cX12_copy 134 = .ok (.goto 4, 3) := by decide +kernel
theorem dX12_copy_137 : decode cX12_copy 137 = .ok (.iconst 0, 1) := by decide +kernel
theorem dX12_copy_138 : decode cX12_copy 138 = .ok (.istore 6, 2) := by decide +kernel
theorem dX12_copy_140 : decode cX12_copy 140 = .ok (.iconst 0, 1) := by decide +kernel
theorem dX12_copy_141 : decode cX12_copy 141 = .ok (.istore 7, 2) := by decide +kernel
theorem dX12_copy_143 : decode cX12_copy 143 = .ok (.iload 7, 2) := by decide +kernel
theorem dX12_copy_145 : decode cX12_copy 145 = .ok (.iload 5, 2) := by decide +kernel
theorem dX12_copy_147 : decode cX12_copy 147 = .ok (.if_icmp .ge 57, 3) := by decide +kernel
theorem dX12_copy_150 : decode cX12_copy 150 = .ok (.iload 6, 2) := by decide +kernel
theorem dX12_copy_152 : decode cX12_copy 152 = .ok (.ifCond .eq 8, 3) := by decide +kernel
theorem dX12_copy_155 : decode cX12_copy 155 = .ok (.iload 7, 2) := by decide +kernel
theorem dX12_copy_157 : decode cX12_copy 157 = .ok (.goto 10, 3) := by decide +kernel
theorem dX12_copy_160 : decode cX12_copy 160 = .ok (.iload 5, 2) := by decide +kernel
theorem dX12_copy_162 : decode cX12_copy 162 = .ok (.iconst 1, 1) := by decide +kernel
theorem dX12_copy_163 : decode cX12_copy 163 = .ok (.isub, 1) := by decide +kernel
theorem dX12_copy_164 : decode cX12_copy 164 = .ok (.iload 7, 2) := by decide +kernel
theorem dX12_copy_166 : decode cX12_copy 166 = .ok (.isub, 1) := by decide +kernel
theorem dX12_copy_167 : decode cX12_copy 167 = .ok (.istore 8, 2) := by decide +kernel
theorem dX12_copy_169 : decode cX12_copy 169 = .ok (.aload_n 0, 1) := by decide +kernel
theorem dX12_copy_170 : decode cX12_copy 170 = .ok (.getfield 67, 3) := by decide +kernel
theorem dX12_copy_173 : decode cX12_copy 173 = .ok (.bipush 24, 2) := by decide +kernel
theorem dX12_copy_175 : decode cX12_copy 175 = .ok (.iload_n 3, 1) := by decide +kernel
theorem dX12_copy_176 : decode cX12_copy 176 = .ok (.imul, 1) := by decide +kernel
theorem dX12_copy_177 : decode cX12_copy 177 = .ok (.iload 4, 2) := by decide +kernel
theorem dX12_copy_179 : decode cX12_copy 179 = .ok (.iadd, 1) := by decide +kernel
theorem dX12_copy_180 : decode cX12_copy 180 = .ok (.iload 8, 2) := by decide +kernel
theorem dX12_copy_182 : decode cX12_copy 182 = .ok (.iadd, 1) := by decide +kernel
theorem dX12_copy_183 : decode cX12_copy 183 = .ok (.aload_n 0, 1) := by decide +kernel
theorem dX12_copy_184 : decode cX12_copy 184 = .ok (.getfield 67, 3) := by decide +kernel
theorem dX12_copy_187 : decode cX12_copy 187 = .ok (.bipush 24, 2) := by decide +kernel
theorem dX12_copy_189 : decode cX12_copy 189 = .ok (.iload_n 1, 1) := by decide +kernel
theorem dX12_copy_190 : decode cX12_copy 190 = .ok (.imul, 1) := by decide +kernel
theorem dX12_copy_191 : decode cX12_copy 191 = .ok (.iload_n 2, 1) := by decide +kernel
theorem dX12_copy_192 : decode cX12_copy 192 = .ok (.iadd, 1) := by decide +kernel
theorem dX12_copy_193 : decode cX12_copy 193 = .ok (.iload 8, 2) := by decide +kernel
theorem dX12_copy_195 : decode cX12_copy 195 = .ok (.iadd, 1) := by decide +kernel
theorem dX12_copy_196 : decode cX12_copy 196 = .ok (.iaload, 1) := by decide +kernel
theorem dX12_copy_197 : decode cX12_copy 197 = .ok (.iastore, 1) := by decide +kernel
theorem dX12_copy_198 : decode cX12_copy 198 = .ok (.iinc 7 1, 3) := by decide +kernel
theorem dX12_copy_201 : decode cX12_copy 201 = .ok (.goto (-58), 3) := by decide +kernel
theorem dX12_copy_204 : decode cX12_copy 204 = .ok (.iload 5, 2) := by decide +kernel
theorem dX12_copy_206 : decode cX12_copy 206 = .ok (.ireturn, 1) := by decide +kernel
set_option maxRecDepth 20000 in
theorem ggX12_drop_X12_isRow : GoodIn wsX12_drop wsX12_isRow := goodIn_r _ [9, 10, 11, 12, 8, 13] (by decide +kernel) (by decide +kernel)
set_option maxRecDepth 20000 in
theorem gX12_drop_X12_isRow : GoodIn wsX12_drop (va_wsS RX12 149 yX12_isRow wsX12_isRow) := goodIn_app (goodIn_of _ (by decide +kernel)) ggX12_drop_X12_isRow
set_option maxRecDepth 20000 in
theorem ggX12_drop_X12_found : GoodIn wsX12_drop wsX12_found := goodIn_r _ [17, 3, 18, 19, 20, 21, 22, 23, 24, 25, 26, 27, 28, 29, 30, 31, 32, 33, 34, 35, 36, 37, 38, 39, 40, 41, 42, 43, 44, 45, 46, 47] (by decide +kernel) (by decide +kernel)
set_option maxRecDepth 20000 in
theorem gX12_drop_X12_found : GoodIn wsX12_drop (wsV RX12 154 RX12 yX12_found wsX12_found) := goodIn_app (goodIn_of _ (by decide +kernel)) ggX12_drop_X12_found
theorem dX12_drop_0 : decode cX12_drop 0 = .ok (.aload_n 0, 1) := by decide +kernel
theorem dX12_drop_1 : decode cX12_drop 1 = .ok (.iconst 0, 1) := by decide +kernel
theorem dX12_drop_2 : decode cX12_drop 2 = .ok (.putfield 1, 3) := by decide +kernel
theorem dX12_drop_5 : decode cX12_drop 5 = .ok (.iload_n 1, 1) := by decide +kernel
theorem dX12_drop_6 : decode cX12_drop 6 = .ok (.invokestatic 149, 3) := by decide +kernel
theorem dX12_drop_9 : decode cX12_drop 9 = .ok (.ifCond .ne 6, 3) := by decide +kernel
theorem dX12_drop_12 : decode cX12_drop 12 = .ok (.ldc 141, 2) := by decide +kernel
theorem dX12_drop_14 : decode cX12_drop 14 = .ok (.ireturn, 1) := by decide +kernel
theorem dX12_drop_15 : decode cX12_drop 15 = .ok (.aload_n 0, 1) := by decide +kernel
theorem dX12_drop_16 : decode cX12_drop 16 = .ok (.iconst 0, 1) := by decide +kernel
theorem dX12_drop_17 : decode cX12_drop 17 = .ok (.putfield 7, 3) := by decide +kernel
theorem dX12_drop_20 : decode cX12_drop 20 = .ok (.aload_n 0, 1) := by decide +kernel
theorem dX12_drop_21 : decode cX12_drop 21 = .ok (.getfield 61, 3) := by decide +kernel
theorem dX12_drop_24 : decode cX12_drop 24 = .ok (.iload_n 1, 1) := by decide +kernel
theorem dX12_drop_25 : decode cX12_drop 25 = .ok (.iaload, 1) := by decide +kernel
theorem dX12_drop_26 : decode cX12_drop 26 = .ok (.ifCond .ge 9, 3) := by decide +kernel
theorem dX12_drop_29 : decode cX12_drop 29 = .ok (.aload_n 0, 1) := by decide +kernel
theorem dX12_drop_30 : decode cX12_drop 30 = .ok (.iconst 1, 1) := by decide +kernel
theorem dX12_drop_31 : decode cX12_drop 31 = .ok (.invokevirtual 154, 3) := by decide +kernel
theorem dX12_drop_34 : decode cX12_drop 34 = .ok (.ireturn, 1) := by decide +kernel
theorem dX12_drop_35 : decode cX12_drop 35 = .ok (.aload_n 0, 1) := by decide +kernel
theorem dX12_drop_36 : decode cX12_drop 36 = .ok (.getfield 61, 3) := by decide +kernel
theorem dX12_drop_39 : decode cX12_drop 39 = .ok (.iload_n 1, 1) := by decide +kernel
theorem dX12_drop_40 : decode cX12_drop 40 = .ok (.iconst (-1), 1) := by decide +kernel
theorem dX12_drop_41 : decode cX12_drop 41 = .ok (.iastore, 1) := by decide +kernel
theorem dX12_drop_42 : decode cX12_drop 42 = .ok (.aload_n 0, 1) := by decide +kernel
theorem dX12_drop_43 : decode cX12_drop 43 = .ok (.getfield 64, 3) := by decide +kernel
theorem dX12_drop_46 : decode cX12_drop 46 = .ok (.iload_n 1, 1) := by decide +kernel
theorem dX12_drop_47 : decode cX12_drop 47 = .ok (.iaload, 1) := by decide +kernel
theorem dX12_drop_48 : decode cX12_drop 48 = .ok (.ireturn, 1) := by decide +kernel
set_option maxRecDepth 20000 in
theorem ggX12_isPlace_X12_in : GoodIn wsX12_isPlace wsX12_in := goodIn_r _ [5] (by decide +kernel) (by decide +kernel)
set_option maxRecDepth 20000 in
theorem gX12_isPlace_X12_in : GoodIn wsX12_isPlace (va_wsS RX12 129 yX12_in wsX12_in) := goodIn_app (goodIn_of _ (by decide +kernel)) ggX12_isPlace_X12_in
theorem dX12_isPlace_0 : decode cX12_isPlace 0 = .ok (.iload_n 0, 1) := by decide +kernel
theorem dX12_isPlace_1 : decode cX12_isPlace 1 = .ok (.i2l, 1) := by decide +kernel
theorem dX12_isPlace_2 : decode cX12_isPlace 2 = .ok (.lconst 0, 1) := by decide +kernel
theorem dX12_isPlace_3 : decode cX12_isPlace 3 = .ok (.ldc2_w 157, 3) := by decide +kernel
theorem dX12_isPlace_6 : decode cX12_isPlace 6 = .ok (.invokestatic 129, 3) := by decide +kernel
theorem dX12_isPlace_9 : decode cX12_isPlace 9 = .ok (.ireturn, 1) := by decide +kernel
theorem dX12_lengthOf_0 : decode cX12_lengthOf 0 = .ok (.iconst (-1), 1) := by decide +kernel
theorem dX12_lengthOf_1 : decode cX12_lengthOf 1 = .ok (.istore_n 1, 1) := by decide +kernel
theorem dX12_lengthOf_2 : decode cX12_lengthOf 2 = .ok (.iconst 0, 1) := by decide +kernel
theorem dX12_lengthOf_3 : decode cX12_lengthOf 3 = .ok (.istore_n 2, 1) := by decide +kernel
theorem dX12_lengthOf_4 : decode cX12_lengthOf 4 = .ok (.iload_n 2, 1) := by decide +kernel
theorem dX12_lengthOf_5 : decode cX12_lengthOf 5 = .ok (.bipush 24, 2) := by decide +kernel
theorem dX12_lengthOf_7 : decode cX12_lengthOf 7 = .ok (.if_icmp .ge 21, 3) := by decide +kernel
theorem dX12_lengthOf_10 : decode cX12_lengthOf 10 = .ok (.aload_n 0, 1) := by decide +kernel
theorem dX12_lengthOf_11 : decode cX12_lengthOf 11 = .ok (.iload_n 2, 1) := by decide +kernel
theorem dX12_lengthOf_12 : decode cX12_lengthOf 12 = .ok (.iaload, 1) := by decide +kernel
theorem dX12_lengthOf_13 : decode cX12_lengthOf 13 = .ok (.ifCond .eq 7, 3) := by decide +kernel
theorem dX12_lengthOf_16 : decode cX12_lengthOf 16 = .ok (.iload_n 2, 1) := by decide +kernel
theorem dX12_lengthOf_17 : decode cX12_lengthOf 17 = .ok (.goto 4, 3) := by decide +kernel
theorem dX12_lengthOf_20 : decode cX12_lengthOf 20 = .ok (.iload_n 1, 1) := by decide +kernel
theorem dX12_lengthOf_21 : decode cX12_lengthOf 21 = .ok (.istore_n 1, 1) := by decide +kernel
theorem dX12_lengthOf_22 : decode cX12_lengthOf 22 = .ok (.iinc 2 1, 3) := by decide +kernel
theorem dX12_lengthOf_25 : decode cX12_lengthOf 25 = .ok (.goto (-21), 3) := by decide +kernel
theorem dX12_lengthOf_28 : decode cX12_lengthOf 28 = .ok (.iload_n 1, 1) := by decide +kernel
theorem dX12_lengthOf_29 : decode cX12_lengthOf 29 = .ok (.ireturn, 1) := by decide +kernel
set_option maxRecDepth 20000 in
theorem ggX12_act_X12_figures : GoodIn wsX12_act wsX12_figures := goodIn_r _ [10, 11, 32, 33, 34, 35, 36, 37, 38, 39, 40, 41, 42, 43, 44, 45, 46, 47, 48, 49, 50, 51, 52, 53, 54, 55, 56, 57, 58, 59, 60] (by decide +kernel) (by decide +kernel)
set_option maxRecDepth 20000 in
theorem gX12_act_X12_figures : GoodIn wsX12_act (wsV RX12 22 RX12 yX12_figures wsX12_figures) := goodIn_app (goodIn_of _ (by decide +kernel)) ggX12_act_X12_figures
set_option maxRecDepth 20000 in
theorem ggX12_act_X12_far : GoodIn wsX12_act wsX12_far := goodIn_r _ [15, 16, 11, 17, 18, 19, 9, 20, 21, 22, 23, 32, 33, 34, 35, 36, 37, 38, 39, 40, 41, 42, 43, 44, 45, 46, 47, 48, 49, 50, 51, 52, 53, 54, 55, 56, 57, 58, 59, 60] (by decide +kernel) (by decide +kernel)
set_option maxRecDepth 20000 in
theorem gX12_act_X12_far : GoodIn wsX12_act (wsV RX12 159 RX12 yX12_far wsX12_far) := goodIn_app (goodIn_of _ (by decide +kernel)) ggX12_act_X12_far
set_option maxRecDepth 20000 in
theorem ggX12_act_X12_times : GoodIn wsX12_act wsX12_times := goodIn_r _ [27, 21, 22, 23, 32, 33, 34, 35, 36, 37, 38, 39, 40, 41, 42, 43, 44, 45, 46, 47, 48, 49, 50, 51, 52, 53, 54, 55, 56, 57, 58, 59, 60] (by decide +kernel) (by decide +kernel)
set_option maxRecDepth 20000 in
theorem gX12_act_X12_times : GoodIn wsX12_act (wsV RX12 119 RX12 yX12_times wsX12_times) := goodIn_app (goodIn_of _ (by decide +kernel)) ggX12_act_X12_times
set_option maxRecDepth 20000 in
theorem ggX12_act_X12_add : GoodIn wsX12_act wsX12_add := goodIn_r _ [31, 11, 32, 33, 34, 35, 36, 37, 38, 39, 40, 41, 42, 43, 44, 45, 46, 47, 48, 49, 50, 51, 52, 53, 54, 55, 56, 57, 58, 59, 60] (by decide +kernel) (by decide +kernel)
set_option maxRecDepth 20000 in
theorem gX12_act_X12_add : GoodIn wsX12_act (wsV RX12 122 RX12 yX12_add wsX12_add) := goodIn_app (goodIn_of _ (by decide +kernel)) ggX12_act_X12_add
theorem dX12_act_0 : decode cX12_act 0 = .ok (.iconst 0, 1) := by decide +kernel
theorem dX12_act_1 : decode cX12_act 1 = .ok (.istore_n 3, 1) := by decide +kernel
theorem dX12_act_2 : decode cX12_act 2 = .ok (.iload_n 3, 1) := by decide +kernel
theorem dX12_act_3 : decode cX12_act 3 = .ok (.bipush 24, 2) := by decide +kernel
theorem dX12_act_5 : decode cX12_act 5 = .ok (.if_icmp .ge 16, 3) := by decide +kernel
theorem dX12_act_8 : decode cX12_act 8 = .ok (.aload_n 0, 1) := by decide +kernel
theorem dX12_act_9 : decode cX12_act 9 = .ok (.getfield 76, 3) := by decide +kernel
theorem dX12_act_12 : decode cX12_act 12 = .ok (.iload_n 3, 1) := by decide +kernel
theorem dX12_act_13 : decode cX12_act 13 = .ok (.iconst 0, 1) := by decide +kernel
theorem dX12_act_14 : decode cX12_act 14 = .ok (.iastore, 1) := by decide +kernel
theorem dX12_act_15 : decode cX12_act 15 = .ok (.iinc 3 1, 3) := by decide +kernel
theorem dX12_act_18 : decode cX12_act 18 = .ok (.goto (-16), 3) := by decide +kernel
theorem dX12_act_21 : decode cX12_act 21 = .ok (.aload_n 0, 1) := by decide +kernel
theorem dX12_act_22 : decode cX12_act 22 = .ok (.iload_n 2, 1) := by decide +kernel
theorem dX12_act_23 : decode cX12_act 23 = .ok (.aload_n 0, 1) := by decide +kernel
theorem dX12_act_24 : decode cX12_act 24 = .ok (.getfield 36, 3) := by decide +kernel
theorem dX12_act_27 : decode cX12_act 27 = .ok (.invokevirtual 22, 3) := by decide +kernel
theorem dX12_act_30 : decode cX12_act 30 = .ok (.istore_n 3, 1) := by decide +kernel
theorem dX12_act_31 : decode cX12_act 31 = .ok (.iload_n 3, 1) := by decide +kernel
theorem dX12_act_32 : decode cX12_act 32 = .ok (.istore 4, 2) := by decide +kernel
theorem dX12_act_34 : decode cX12_act 34 = .ok (.iload 4, 2) := by decide +kernel
theorem dX12_act_36 : decode cX12_act 36 = .ok (.ifCond .lt 168, 3) := by decide +kernel
theorem dX12_act_39 : decode cX12_act 39 = .ok (.iconst 0, 1) := by decide +kernel
theorem dX12_act_40 : decode cX12_act 40 = .ok (.istore 5, 2) := by decide +kernel
theorem dX12_act_42 : decode cX12_act 42 = .ok (.iload 5, 2) := by decide +kernel
theorem dX12_act_44 : decode cX12_act 44 = .ok (.bipush 24, 2) := by decide +kernel
theorem dX12_act_46 : decode cX12_act 46 = .ok (.if_icmp .ge 31, 3) := by decide +kernel
theorem dX12_act_49 : decode cX12_act 49 = .ok (.aload_n 0, 1) := by decide +kernel
theorem dX12_act_50 : decode cX12_act 50 = .ok (.getfield 79, 3) := by decide +kernel
theorem dX12_act_53 : decode cX12_act 53 = .ok (.iload 5, 2) := by decide +kernel
theorem dX12_act_55 : decode cX12_act 55 = .ok (.aload_n 0, 1) := by decide +kernel
theorem dX12_act_56 : decode cX12_act 56 = .ok (.getfield 76, 3) := by decide +kernel
theorem dX12_act_59 : decode cX12_act 59 = .ok (.iload 5, 2) := by decide +kernel
theorem dX12_act_61 : decode cX12_act 61 = .ok (.iaload, 1) := by decide +kernel
theorem dX12_act_62 : decode cX12_act 62 = .ok (.iastore, 1) := by decide +kernel
theorem dX12_act_63 : decode cX12_act 63 = .ok (.aload_n 0, 1) := by decide +kernel
theorem dX12_act_64 : decode cX12_act 64 = .ok (.getfield 76, 3) := by decide +kernel
theorem dX12_act_67 : decode cX12_act 67 = .ok (.iload 5, 2) := by decide +kernel
theorem dX12_act_69 : decode cX12_act 69 = .ok (.iconst 0, 1) := by decide +kernel
theorem dX12_act_70 : decode cX12_act 70 = .ok (.iastore, 1) := by decide +kernel
theorem dX12_act_71 : decode cX12_act 71 = .ok (.iinc 5 1, 3) := by decide +kernel
theorem dX12_act_74 : decode cX12_act 74 = .ok (.goto (-32), 3) := by decide +kernel
theorem dX12_act_77 : decode cX12_act 77 = .ok (.iconst 0, 1) := by decide +kernel
theorem dX12_act_78 : decode cX12_act 78 = .ok (.istore 5, 2) := by decide +kernel
theorem dX12_act_80 : decode cX12_act 80 = .ok (.iload 5, 2) := by decide +kernel
theorem dX12_act_82 : decode cX12_act 82 = .ok (.bipush 24, 2) := by decide +kernel
theorem dX12_act_84 : decode cX12_act 84 = .ok (.if_icmp .ge 91, 3) := by decide +kernel
theorem dX12_act_87 : decode cX12_act 87 = .ok (.iconst 0, 1) := by decide +kernel
theorem dX12_act_88 : decode cX12_act 88 = .ok (.istore 6, 2) := by decide +kernel
theorem dX12_act_90 : decode cX12_act 90 = .ok (.iload 6, 2) := by decide +kernel
theorem dX12_act_92 : decode cX12_act 92 = .ok (.aload_n 0, 1) := by decide +kernel
theorem dX12_act_93 : decode cX12_act 93 = .ok (.getfield 70, 3) := by decide +kernel
theorem dX12_act_96 : decode cX12_act 96 = .ok (.iload_n 1, 1) := by decide +kernel
theorem dX12_act_97 : decode cX12_act 97 = .ok (.iaload, 1) := by decide +kernel
theorem dX12_act_98 : decode cX12_act 98 = .ok (.if_icmp .gt 71, 3) := by decide +kernel
theorem dX12_act_101 : decode cX12_act 101 = .ok (.aload_n 0, 1) := by decide +kernel
theorem dX12_act_102 : decode cX12_act 102 = .ok (.getfield 79, 3) := by decide +kernel
theorem dX12_act_105 : decode cX12_act 105 = .ok (.iload 5, 2) := by decide +kernel
theorem dX12_act_107 : decode cX12_act 107 = .ok (.iaload, 1) := by decide +kernel
theorem dX12_act_108 : decode cX12_act 108 = .ok (.ifCond .eq 61, 3) := by decide +kernel
theorem dX12_act_111 : decode cX12_act 111 = .ok (.aload_n 0, 1) := by decide +kernel
theorem dX12_act_112 : decode cX12_act 112 = .ok (.getfield 76, 3) := by decide +kernel
theorem dX12_act_115 : decode cX12_act 115 = .ok (.iload 5, 2) := by decide +kernel
theorem dX12_act_117 : decode cX12_act 117 = .ok (.iload 6, 2) := by decide +kernel
theorem dX12_act_119 : decode cX12_act 119 = .ok (.iadd, 1) := by decide +kernel
theorem dX12_act_120 : decode cX12_act 120 = .ok (.aload_n 0, 1) := by decide +kernel
theorem dX12_act_121 : decode cX12_act 121 = .ok (.aload_n 0, 1) := by decide +kernel
theorem dX12_act_122 : decode cX12_act 122 = .ok (.getfield 76, 3) := by decide +kernel
theorem dX12_act_125 : decode cX12_act 125 = .ok (.iload 5, 2) := by decide +kernel
theorem dX12_act_127 : decode cX12_act 127 = .ok (.iload 6, 2) := by decide +kernel
theorem dX12_act_129 : decode cX12_act 129 = .ok (.iadd, 1) := by decide +kernel
theorem dX12_act_130 : decode cX12_act 130 = .ok (.iaload, 1) := by decide +kernel
theorem dX12_act_131 : decode cX12_act 131 = .ok (.aload_n 0, 1) := by decide +kernel
theorem dX12_act_132 : decode cX12_act 132 = .ok (.aload_n 0, 1) := by decide +kernel
theorem dX12_act_133 : decode cX12_act 133 = .ok (.getfield 79, 3) := by decide +kernel
theorem dX12_act_136 : decode cX12_act 136 = .ok (.iload 5, 2) := by decide +kernel
theorem dX12_act_138 : decode cX12_act 138 = .ok (.iaload, 1) := by decide +kernel
theorem dX12_act_139 : decode cX12_act 139 = .ok (.aload_n 0, 1) := by decide +kernel
theorem dX12_act_140 : decode cX12_act 140 = .ok (.aload_n 0, 1) := by decide +kernel
theorem dX12_act_141 : decode cX12_act 141 = .ok (.getfield 73, 3) := by decide +kernel
theorem dX12_act_144 : decode cX12_act 144 = .ok (.iconst 4, 1) := by decide +kernel
theorem dX12_act_145 : decode cX12_act 145 = .ok (.iload_n 1, 1) := by decide +kernel
theorem dX12_act_146 : decode cX12_act 146 = .ok (.imul, 1) := by decide +kernel
theorem dX12_act_147 : decode cX12_act 147 = .ok (.iload 6, 2) := by decide +kernel
theorem dX12_act_149 : decode cX12_act 149 = .ok (.iadd, 1) := by decide +kernel
theorem dX12_act_150 : decode cX12_act 150 = .ok (.iaload, 1) := by decide +kernel
theorem dX12_act_151 : decode cX12_act 151 = .ok (.iload 5, 2) := by decide +kernel
theorem dX12_act_153 : decode cX12_act 153 = .ok (.invokevirtual 159, 3) := by decide +kernel
theorem dX12_act_156 : decode cX12_act 156 = .ok (.invokevirtual 119, 3) := by decide +kernel
theorem dX12_act_159 : decode cX12_act 159 = .ok (.invokevirtual 122, 3) := by decide +kernel
theorem dX12_act_162 : decode cX12_act 162 = .ok (.iastore, 1) := by decide +kernel
theorem dX12_act_163 : decode cX12_act 163 = .ok (.iinc 6 1, 3) := by decide +kernel
theorem dX12_act_166 : decode cX12_act 166 = .ok (.goto (-76), 3) := by decide +kernel
theorem dX12_act_169 : decode cX12_act 169 = .ok (.iinc 5 1, 3) := by decide +kernel
theorem dX12_act_172 : decode cX12_act 172 = .ok (.goto (-92), 3) := by decide +kernel
theorem dX12_act_175 : decode cX12_act 175 = .ok (.aload_n 0, 1) := by decide +kernel
theorem dX12_act_176 : decode cX12_act 176 = .ok (.getfield 76, 3) := by decide +kernel
theorem dX12_act_179 : decode cX12_act 179 = .ok (.iconst 0, 1) := by decide +kernel
theorem dX12_act_180 : decode cX12_act 180 = .ok (.aload_n 0, 1) := by decide +kernel
theorem dX12_act_181 : decode cX12_act 181 = .ok (.aload_n 0, 1) := by decide +kernel
theorem dX12_act_182 : decode cX12_act 182 = .ok (.getfield 76, 3) := by decide +kernel
theorem dX12_act_185 : decode cX12_act 185 = .ok (.iconst 0, 1) := by decide +kernel
theorem dX12_act_186 : decode cX12_act 186 = .ok (.iaload, 1) := by decide +kernel
theorem dX12_act_187 : decode cX12_act 187 = .ok (.aload_n 0, 1) := by decide +kernel
theorem dX12_act_188 : decode cX12_act 188 = .ok (.getfield 36, 3) := by decide +kernel
theorem dX12_act_191 : decode cX12_act 191 = .ok (.iload 4, 2) := by decide +kernel
theorem dX12_act_193 : decode cX12_act 193 = .ok (.iaload, 1) := by decide +kernel
theorem dX12_act_194 : decode cX12_act 194 = .ok (.invokevirtual 122, 3) := by decide +kernel
theorem dX12_act_197 : decode cX12_act 197 = .ok (.iastore, 1) := by decide +kernel
theorem dX12_act_198 : decode cX12_act 198 = .ok (.iinc 4 (-1), 3) := by decide +kernel
theorem dX12_act_201 : decode cX12_act 201 = .ok (.goto (-167), 3) := by decide +kernel
theorem dX12_act_204 : decode cX12_act 204 = .ok (.return_, 1) := by decide +kernel
set_option maxRecDepth 20000 in
theorem ggX12_done_X12_times : GoodIn wsX12_done wsX12_times := goodIn_r _ [6, 7, 8, 9, 18, 19, 20, 21, 22, 23, 24, 25, 26, 27, 28, 29, 30, 31, 32, 33, 34, 35, 36, 37, 38, 39, 40, 41, 42, 43, 44, 45, 46] (by decide +kernel) (by decide +kernel)
set_option maxRecDepth 20000 in
theorem gX12_done_X12_times : GoodIn wsX12_done (wsV RX12 119 RX12 yX12_times wsX12_times) := goodIn_app (goodIn_of _ (by decide +kernel)) ggX12_done_X12_times
set_option maxRecDepth 20000 in
theorem ggX12_done_X12_add : GoodIn wsX12_done wsX12_add := goodIn_r _ [13, 1, 18, 19, 20, 21, 22, 23, 24, 25, 26, 27, 28, 29, 30, 31, 32, 33, 34, 35, 36, 37, 38, 39, 40, 41, 42, 43, 44, 45, 46] (by decide +kernel) (by decide +kernel)
set_option maxRecDepth 20000 in
theorem gX12_done_X12_add : GoodIn wsX12_done (wsV RX12 122 RX12 yX12_add wsX12_add) := goodIn_app (goodIn_of _ (by decide +kernel)) ggX12_done_X12_add
set_option maxRecDepth 20000 in
theorem ggX12_done_X12_raise : GoodIn wsX12_done wsX12_raise := goodIn_r _ [17, 7, 8, 9, 18, 19, 20, 21, 22, 23, 24, 25, 26, 27, 28, 29, 30, 31, 32, 33, 34, 35, 36, 37, 38, 39, 40, 41, 42, 43, 44, 45, 46] (by decide +kernel) (by decide +kernel)
set_option maxRecDepth 20000 in
theorem gX12_done_X12_raise : GoodIn wsX12_done (wsV RX12 125 RX12 yX12_raise wsX12_raise) := goodIn_app (goodIn_of _ (by decide +kernel)) ggX12_done_X12_raise
theorem dX12_done_0 : decode cX12_done 0 = .ok (.iconst 0, 1) := by decide +kernel
theorem dX12_done_1 : decode cX12_done 1 = .ok (.istore_n 3, 1) := by decide +kernel
theorem dX12_done_2 : decode cX12_done 2 = .ok (.iload_n 2, 1) := by decide +kernel
theorem dX12_done_3 : decode cX12_done 3 = .ok (.istore 4, 2) := by decide +kernel
theorem dX12_done_5 : decode cX12_done 5 = .ok (.iconst 0, 1) := by decide +kernel
theorem dX12_done_6 : decode cX12_done 6 = .ok (.istore 5, 2) := by decide +kernel
theorem dX12_done_8 : decode cX12_done 8 = .ok (.iload 5, 2) := by decide +kernel
theorem dX12_done_10 : decode cX12_done 10 = .ok (.bipush 24, 2) := by decide +kernel
theorem dX12_done_12 : decode cX12_done 12 = .ok (.if_icmp .ge 38, 3) := by decide +kernel
theorem dX12_done_15 : decode cX12_done 15 = .ok (.aload_n 0, 1) := by decide +kernel
theorem dX12_done_16 : decode cX12_done 16 = .ok (.iload_n 3, 1) := by decide +kernel
theorem dX12_done_17 : decode cX12_done 17 = .ok (.aload_n 0, 1) := by decide +kernel
theorem dX12_done_18 : decode cX12_done 18 = .ok (.aload_n 1, 1) := by decide +kernel
theorem dX12_done_19 : decode cX12_done 19 = .ok (.iload 5, 2) := by decide +kernel
theorem dX12_done_21 : decode cX12_done 21 = .ok (.iaload, 1) := by decide +kernel
theorem dX12_done_22 : decode cX12_done 22 = .ok (.iload 4, 2) := by decide +kernel
theorem dX12_done_24 : decode cX12_done 24 = .ok (.invokevirtual 119, 3) := by decide +kernel
theorem dX12_done_27 : decode cX12_done 27 = .ok (.invokevirtual 122, 3) := by decide +kernel
theorem dX12_done_30 : decode cX12_done 30 = .ok (.istore_n 3, 1) := by decide +kernel
theorem dX12_done_31 : decode cX12_done 31 = .ok (.aload_n 0, 1) := by decide +kernel
theorem dX12_done_32 : decode cX12_done 32 = .ok (.iload 4, 2) := by decide +kernel
theorem dX12_done_34 : decode cX12_done 34 = .ok (.aload_n 0, 1) := by decide +kernel
theorem dX12_done_35 : decode cX12_done 35 = .ok (.getfield 11, 3) := by decide +kernel
theorem dX12_done_38 : decode cX12_done 38 = .ok (.i2l, 1) := by decide +kernel
theorem dX12_done_39 : decode cX12_done 39 = .ok (.invokevirtual 125, 3) := by decide +kernel
theorem dX12_done_42 : decode cX12_done 42 = .ok (.istore 4, 2) := by decide +kernel
theorem dX12_done_44 : decode cX12_done 44 = .ok (.iinc 5 1, 3) := by decide +kernel
theorem dX12_done_47 : decode cX12_done 47 = .ok (.goto (-39), 3) := by decide +kernel
theorem dX12_done_50 : decode cX12_done 50 = .ok (.iload_n 3, 1) := by decide +kernel
theorem dX12_done_51 : decode cX12_done 51 = .ok (.ireturn, 1) := by decide +kernel
set_option maxRecDepth 20000 in
theorem ggX12_step_X12_times : GoodIn wsX12_step wsX12_times := goodIn_r _ [8, 9, 10, 11, 20, 21, 22, 23, 24, 25, 26, 27, 28, 29, 30, 31, 32, 33, 34, 35, 36, 37, 38, 39, 40, 41, 42, 43, 44, 45, 46, 47, 48] (by decide +kernel) (by decide +kernel)
set_option maxRecDepth 20000 in
theorem gX12_step_X12_times : GoodIn wsX12_step (wsV RX12 119 RX12 yX12_times wsX12_times) := goodIn_app (goodIn_of _ (by decide +kernel)) ggX12_step_X12_times
set_option maxRecDepth 20000 in
theorem ggX12_step_X12_add : GoodIn wsX12_step wsX12_add := goodIn_r _ [15, 3, 20, 21, 22, 23, 24, 25, 26, 27, 28, 29, 30, 31, 32, 33, 34, 35, 36, 37, 38, 39, 40, 41, 42, 43, 44, 45, 46, 47, 48] (by decide +kernel) (by decide +kernel)
set_option maxRecDepth 20000 in
theorem gX12_step_X12_add : GoodIn wsX12_step (wsV RX12 122 RX12 yX12_add wsX12_add) := goodIn_app (goodIn_of _ (by decide +kernel)) ggX12_step_X12_add
set_option maxRecDepth 20000 in
theorem ggX12_step_X12_raise : GoodIn wsX12_step wsX12_raise := goodIn_r _ [19, 9, 10, 11, 20, 21, 22, 23, 24, 25, 26, 27, 28, 29, 30, 31, 32, 33, 34, 35, 36, 37, 38, 39, 40, 41, 42, 43, 44, 45, 46, 47, 48] (by decide +kernel) (by decide +kernel)
set_option maxRecDepth 20000 in
theorem gX12_step_X12_raise : GoodIn wsX12_step (wsV RX12 125 RX12 yX12_raise wsX12_raise) := goodIn_app (goodIn_of _ (by decide +kernel)) ggX12_step_X12_raise
theorem dX12_step_0 : decode cX12_step 0 = .ok (.iconst 0, 1) := by decide +kernel
theorem dX12_step_1 : decode cX12_step 1 = .ok (.istore_n 3, 1) := by decide +kernel
theorem dX12_step_2 : decode cX12_step 2 = .ok (.iload_n 2, 1) := by decide +kernel
theorem dX12_step_3 : decode cX12_step 3 = .ok (.istore 4, 2) := by decide +kernel
theorem dX12_step_5 : decode cX12_step 5 = .ok (.iconst 0, 1) := by decide +kernel
theorem dX12_step_6 : decode cX12_step 6 = .ok (.istore 5, 2) := by decide +kernel
theorem dX12_step_8 : decode cX12_step 8 = .ok (.iload 5, 2) := by decide +kernel
theorem dX12_step_10 : decode cX12_step 10 = .ok (.aload_n 0, 1) := by decide +kernel
theorem dX12_step_11 : decode cX12_step 11 = .ok (.getfield 70, 3) := by decide +kernel
theorem dX12_step_14 : decode cX12_step 14 = .ok (.iload_n 1, 1) := by decide +kernel
theorem dX12_step_15 : decode cX12_step 15 = .ok (.iaload, 1) := by decide +kernel
theorem dX12_step_16 : decode cX12_step 16 = .ok (.if_icmp .gt 45, 3) := by decide +kernel
theorem dX12_step_19 : decode cX12_step 19 = .ok (.aload_n 0, 1) := by decide +kernel
theorem dX12_step_20 : decode cX12_step 20 = .ok (.iload_n 3, 1) := by decide +kernel
theorem dX12_step_21 : decode cX12_step 21 = .ok (.aload_n 0, 1) := by decide +kernel
theorem dX12_step_22 : decode cX12_step 22 = .ok (.aload_n 0, 1) := by decide +kernel
theorem dX12_step_23 : decode cX12_step 23 = .ok (.getfield 73, 3) := by decide +kernel
theorem dX12_step_26 : decode cX12_step 26 = .ok (.iconst 4, 1) := by decide +kernel
theorem dX12_step_27 : decode cX12_step 27 = .ok (.iload_n 1, 1) := by decide +kernel
theorem dX12_step_28 : decode cX12_step 28 = .ok (.imul, 1) := by decide +kernel
theorem dX12_step_29 : decode cX12_step 29 = .ok (.iload 5, 2) := by decide +kernel
theorem dX12_step_31 : decode cX12_step 31 = .ok (.iadd, 1) := by decide +kernel
theorem dX12_step_32 : decode cX12_step 32 = .ok (.iaload, 1) := by decide +kernel
theorem dX12_step_33 : decode cX12_step 33 = .ok (.iload 4, 2) := by decide +kernel
theorem dX12_step_35 : decode cX12_step 35 = .ok (.invokevirtual 119, 3) := by decide +kernel
theorem dX12_step_38 : decode cX12_step 38 = .ok (.invokevirtual 122, 3) := by decide +kernel
theorem dX12_step_41 : decode cX12_step 41 = .ok (.istore_n 3, 1) := by decide +kernel
theorem dX12_step_42 : decode cX12_step 42 = .ok (.aload_n 0, 1) := by decide +kernel
theorem dX12_step_43 : decode cX12_step 43 = .ok (.iload 4, 2) := by decide +kernel
theorem dX12_step_45 : decode cX12_step 45 = .ok (.aload_n 0, 1) := by decide +kernel
theorem dX12_step_46 : decode cX12_step 46 = .ok (.getfield 11, 3) := by decide +kernel
theorem dX12_step_49 : decode cX12_step 49 = .ok (.i2l, 1) := by decide +kernel
theorem dX12_step_50 : decode cX12_step 50 = .ok (.invokevirtual 125, 3) := by decide +kernel
theorem dX12_step_53 : decode cX12_step 53 = .ok (.istore 4, 2) := by decide +kernel
theorem dX12_step_55 : decode cX12_step 55 = .ok (.iinc 5 1, 3) := by decide +kernel
theorem dX12_step_58 : decode cX12_step 58 = .ok (.goto (-50), 3) := by decide +kernel
theorem dX12_step_61 : decode cX12_step 61 = .ok (.iload_n 3, 1) := by decide +kernel
theorem dX12_step_62 : decode cX12_step 62 = .ok (.ireturn, 1) := by decide +kernel
set_option maxRecDepth 20000 in
theorem ggX12_degreeOfOwn_X12_raise : GoodIn wsX12_degreeOfOwn wsX12_raise := goodIn_r _ [7, 8, 9, 10, 11, 12, 13, 14, 15, 16, 17, 18, 19, 20, 21, 22, 23, 24, 25, 26, 27, 28, 29, 30, 31, 32, 33, 34, 35, 36, 37, 38, 39] (by decide +kernel) (by decide +kernel)
set_option maxRecDepth 20000 in
theorem gX12_degreeOfOwn_X12_raise : GoodIn wsX12_degreeOfOwn (wsV RX12 125 RX12 yX12_raise wsX12_raise) := goodIn_app (goodIn_of _ (by decide +kernel)) ggX12_degreeOfOwn_X12_raise
theorem dX12_degreeOfOwn_0 : decode cX12_degreeOfOwn 0 = .ok (.iconst 1, 1) := by decide +kernel
theorem dX12_degreeOfOwn_1 : decode cX12_degreeOfOwn 1 = .ok (.istore_n 2, 1) := by decide +kernel
theorem dX12_degreeOfOwn_2 : decode cX12_degreeOfOwn 2 = .ok (.aload_n 0, 1) := by decide +kernel
theorem dX12_degreeOfOwn_3 : decode cX12_degreeOfOwn 3 = .ok (.aload_n 0, 1) := by decide +kernel
theorem dX12_degreeOfOwn_4 : decode cX12_degreeOfOwn 4 = .ok (.getfield 73, 3) := by decide +kernel
theorem dX12_degreeOfOwn_7 : decode cX12_degreeOfOwn 7 = .ok (.iconst 4, 1) := by decide +kernel
theorem dX12_degreeOfOwn_8 : decode cX12_degreeOfOwn 8 = .ok (.iload_n 1, 1) := by decide +kernel
theorem dX12_degreeOfOwn_9 : decode cX12_degreeOfOwn 9 = .ok (.imul, 1) := by decide +kernel
theorem dX12_degreeOfOwn_10 : decode cX12_degreeOfOwn 10 = .ok (.iaload, 1) := by decide +kernel
theorem dX12_degreeOfOwn_11 : decode cX12_degreeOfOwn 11 = .ok (.aload_n 0, 1) := by decide +kernel
theorem dX12_degreeOfOwn_12 : decode cX12_degreeOfOwn 12 = .ok (.getfield 11, 3) := by decide +kernel
theorem dX12_degreeOfOwn_15 : decode cX12_degreeOfOwn 15 = .ok (.i2l, 1) := by decide +kernel
theorem dX12_degreeOfOwn_16 : decode cX12_degreeOfOwn 16 = .ok (.invokevirtual 125, 3) := by decide +kernel
theorem dX12_degreeOfOwn_19 : decode cX12_degreeOfOwn 19 = .ok (.istore_n 3, 1) := by decide +kernel
theorem dX12_degreeOfOwn_20 : decode cX12_degreeOfOwn 20 = .ok (.iload_n 3, 1) := by decide +kernel
theorem dX12_degreeOfOwn_21 : decode cX12_degreeOfOwn 21 = .ok (.aload_n 0, 1) := by decide +kernel
theorem dX12_degreeOfOwn_22 : decode cX12_degreeOfOwn 22 = .ok (.getfield 73, 3) := by decide +kernel
theorem dX12_degreeOfOwn_25 : decode cX12_degreeOfOwn 25 = .ok (.iconst 4, 1) := by decide +kernel
theorem dX12_degreeOfOwn_26 : decode cX12_degreeOfOwn 26 = .ok (.iload_n 1, 1) := by decide +kernel
theorem dX12_degreeOfOwn_27 : decode cX12_degreeOfOwn 27 = .ok (.imul, 1) := by decide +kernel
theorem dX12_degreeOfOwn_28 : decode cX12_degreeOfOwn 28 = .ok (.iaload, 1) := by decide +kernel
theorem dX12_degreeOfOwn_29 : decode cX12_degreeOfOwn 29 = .ok (.if_icmp .eq 20, 3) := by decide +kernel
theorem dX12_degreeOfOwn_32 : decode cX12_degreeOfOwn 32 = .ok (.aload_n 0, 1) := by decide +kernel
theorem dX12_degreeOfOwn_33 : decode cX12_degreeOfOwn 33 = .ok (.iload_n 3, 1) := by decide +kernel
theorem dX12_degreeOfOwn_34 : decode cX12_degreeOfOwn 34 = .ok (.aload_n 0, 1) := by decide +kernel
theorem dX12_degreeOfOwn_35 : decode cX12_degreeOfOwn 35 = .ok (.getfield 11, 3) := by decide +kernel
theorem dX12_degreeOfOwn_38 : decode cX12_degreeOfOwn 38 = .ok (.i2l, 1) := by decide +kernel
theorem dX12_degreeOfOwn_39 : decode cX12_degreeOfOwn 39 = .ok (.invokevirtual 125, 3) := by decide +kernel
theorem dX12_degreeOfOwn_42 : decode cX12_degreeOfOwn 42 = .ok (.istore_n 3, 1) := by decide +kernel
theorem dX12_degreeOfOwn_43 : decode cX12_degreeOfOwn 43 = .ok (.iinc 2 1, 3) := by decide +kernel
theorem dX12_degreeOfOwn_46 : decode cX12_degreeOfOwn 46 = .ok (.goto (-26), 3) := by decide +kernel
theorem dX12_degreeOfOwn_49 : decode cX12_degreeOfOwn 49 = .ok (.iload_n 2, 1) := by decide +kernel
theorem dX12_degreeOfOwn_50 : decode cX12_degreeOfOwn 50 = .ok (.ireturn, 1) := by decide +kernel
set_option maxRecDepth 20000 in
theorem ggX12_ownOf_X12_degreeOfOwn : GoodIn wsX12_ownOf wsX12_degreeOfOwn := goodIn_r _ [7, 2, 8, 9, 10, 11, 6, 12, 13, 14, 15, 37, 38, 39, 40, 41, 42, 43, 44, 45, 46, 47, 48, 49, 50, 51, 52, 53, 54, 55, 56, 57, 58, 59, 60, 61, 62, 63, 64, 65] (by decide +kernel) (by decide +kernel)
set_option maxRecDepth 20000 in
theorem gX12_ownOf_X12_degreeOfOwn : GoodIn wsX12_ownOf (wsV RX12 162 RX12 yX12_degreeOfOwn wsX12_degreeOfOwn) := goodIn_app (goodIn_of _ (by decide +kernel)) ggX12_ownOf_X12_degreeOfOwn
set_option maxRecDepth 20000 in
theorem ggX12_ownOf_X12_far : GoodIn wsX12_ownOf wsX12_far := goodIn_r _ [19, 20, 8, 9, 10, 11, 6, 12, 13, 14, 15, 37, 38, 39, 40, 41, 42, 43, 44, 45, 46, 47, 48, 49, 50, 51, 52, 53, 54, 55, 56, 57, 58, 59, 60, 61, 62, 63, 64, 65] (by decide +kernel) (by decide +kernel)
set_option maxRecDepth 20000 in
theorem gX12_ownOf_X12_far : GoodIn wsX12_ownOf (wsV RX12 159 RX12 yX12_far wsX12_far) := goodIn_app (goodIn_of _ (by decide +kernel)) ggX12_ownOf_X12_far
set_option maxRecDepth 20000 in
theorem ggX12_ownOf_X12_times : GoodIn wsX12_ownOf wsX12_times := goodIn_r _ [24, 13, 14, 15, 37, 38, 39, 40, 41, 42, 43, 44, 45, 46, 47, 48, 49, 50, 51, 52, 53, 54, 55, 56, 57, 58, 59, 60, 61, 62, 63, 64, 65] (by decide +kernel) (by decide +kernel)
set_option maxRecDepth 20000 in
theorem gX12_ownOf_X12_times : GoodIn wsX12_ownOf (wsV RX12 119 RX12 yX12_times wsX12_times) := goodIn_app (goodIn_of _ (by decide +kernel)) ggX12_ownOf_X12_times
set_option maxRecDepth 20000 in
theorem ggX12_ownOf_X12_less : GoodIn wsX12_ownOf wsX12_less := goodIn_r _ [28, 8, 21, 22, 23, 6, 24, 13, 14, 15, 29, 30, 31, 32, 37, 38, 39, 40, 41, 42, 43, 44, 45, 46, 47, 48, 49, 50, 51, 52, 53, 54, 55, 56, 57, 58, 59, 60, 61, 62, 63, 64, 65] (by decide +kernel) (by decide +kernel)
set_option maxRecDepth 20000 in
theorem gX12_ownOf_X12_less : GoodIn wsX12_ownOf (wsV RX12 165 RX12 yX12_less wsX12_less) := goodIn_app (goodIn_of _ (by decide +kernel)) ggX12_ownOf_X12_less
set_option maxRecDepth 20000 in
theorem ggX12_ownOf_X12_codeOf : GoodIn wsX12_ownOf wsX12_codeOf := goodIn_r _ [36, 8, 37, 38, 39, 40, 41, 42, 43, 44, 45, 46, 47, 48, 49, 50, 51, 52, 53, 54, 55, 56, 57, 58, 59, 60, 61, 62, 63, 64, 65] (by decide +kernel) (by decide +kernel)
set_option maxRecDepth 20000 in
theorem gX12_ownOf_X12_codeOf : GoodIn wsX12_ownOf (wsV RX12 45 RX12 yX12_codeOf wsX12_codeOf) := goodIn_app (goodIn_of _ (by decide +kernel)) ggX12_ownOf_X12_codeOf
theorem dX12_ownOf_0 : decode cX12_ownOf 0 = .ok (.aload_n 0, 1) := by decide +kernel
theorem dX12_ownOf_1 : decode cX12_ownOf 1 = .ok (.iload_n 1, 1) := by decide +kernel
theorem dX12_ownOf_2 : decode cX12_ownOf 2 = .ok (.invokevirtual 162, 3) := by decide +kernel
theorem dX12_ownOf_5 : decode cX12_ownOf 5 = .ok (.istore_n 2, 1) := by decide +kernel
theorem dX12_ownOf_6 : decode cX12_ownOf 6 = .ok (.iconst 0, 1) := by decide +kernel
theorem dX12_ownOf_7 : decode cX12_ownOf 7 = .ok (.istore_n 3, 1) := by decide +kernel
theorem dX12_ownOf_8 : decode cX12_ownOf 8 = .ok (.iload_n 3, 1) := by decide +kernel
theorem dX12_ownOf_9 : decode cX12_ownOf 9 = .ok (.bipush 8, 2) := by decide +kernel
theorem dX12_ownOf_11 : decode cX12_ownOf 11 = .ok (.if_icmp .ge 24, 3) := by decide +kernel
theorem dX12_ownOf_14 : decode cX12_ownOf 14 = .ok (.aload_n 0, 1) := by decide +kernel
theorem dX12_ownOf_15 : decode cX12_ownOf 15 = .ok (.getfield 85, 3) := by decide +kernel
theorem dX12_ownOf_18 : decode cX12_ownOf 18 = .ok (.iload_n 3, 1) := by decide +kernel
theorem dX12_ownOf_19 : decode cX12_ownOf 19 = .ok (.iload_n 3, 1) := by decide +kernel
theorem dX12_ownOf_20 : decode cX12_ownOf 20 = .ok (.ifCond .ne 7, 3) := by decide +kernel
theorem dX12_ownOf_23 : decode cX12_ownOf 23 = .ok (.iconst 1, 1) := by decide +kernel
theorem dX12_ownOf_24 : decode cX12_ownOf 24 = .ok (.goto 4, 3) := by decide +kernel
theorem dX12_ownOf_27 : decode cX12_ownOf 27 = .ok (.iconst 0, 1) := by decide +kernel
theorem dX12_ownOf_28 : decode cX12_ownOf 28 = .ok (.iastore, 1) := by decide +kernel
theorem dX12_ownOf_29 : decode cX12_ownOf 29 = .ok (.iinc 3 1, 3) := by decide +kernel
theorem dX12_ownOf_32 : decode cX12_ownOf 32 = .ok (.goto (-24), 3) := by decide +kernel
theorem dX12_ownOf_35 : decode cX12_ownOf 35 = .ok (.iconst 0, 1) := by decide +kernel
theorem dX12_ownOf_36 : decode cX12_ownOf 36 = .ok (.istore_n 3, 1) := by decide +kernel
theorem dX12_ownOf_37 : decode cX12_ownOf 37 = .ok (.iload_n 3, 1) := by decide +kernel
theorem dX12_ownOf_38 : decode cX12_ownOf 38 = .ok (.iload_n 2, 1) := by decide +kernel
theorem dX12_ownOf_39 : decode cX12_ownOf 39 = .ok (.if_icmp .ge 81, 3) := by decide +kernel
theorem dX12_ownOf_42 : decode cX12_ownOf 42 = .ok (.aload_n 0, 1) := by decide +kernel
theorem dX12_ownOf_43 : decode cX12_ownOf 43 = .ok (.aload_n 0, 1) := by decide +kernel
theorem dX12_ownOf_44 : decode cX12_ownOf 44 = .ok (.getfield 73, 3) := by decide +kernel
theorem dX12_ownOf_47 : decode cX12_ownOf 47 = .ok (.iconst 4, 1) := by decide +kernel
theorem dX12_ownOf_48 : decode cX12_ownOf 48 = .ok (.iload_n 1, 1) := by decide +kernel
theorem dX12_ownOf_49 : decode cX12_ownOf 49 = .ok (.imul, 1) := by decide +kernel
theorem dX12_ownOf_50 : decode cX12_ownOf 50 = .ok (.iaload, 1) := by decide +kernel
theorem dX12_ownOf_51 : decode cX12_ownOf 51 = .ok (.iload_n 3, 1) := by decide +kernel
theorem dX12_ownOf_52 : decode cX12_ownOf 52 = .ok (.invokevirtual 159, 3) := by decide +kernel
theorem dX12_ownOf_55 : decode cX12_ownOf 55 = .ok (.istore 4, 2) := by decide +kernel
theorem dX12_ownOf_57 : decode cX12_ownOf 57 = .ok (.bipush 7, 2) := by decide +kernel
theorem dX12_ownOf_59 : decode cX12_ownOf 59 = .ok (.istore 5, 2) := by decide +kernel
theorem dX12_ownOf_61 : decode cX12_ownOf 61 = .ok (.iload 5, 2) := by decide +kernel
theorem dX12_ownOf_63 : decode cX12_ownOf 63 = .ok (.ifCond .lt 51, 3) := by decide +kernel
theorem dX12_ownOf_66 : decode cX12_ownOf 66 = .ok (.aload_n 0, 1) := by decide +kernel
theorem dX12_ownOf_67 : decode cX12_ownOf 67 = .ok (.getfield 85, 3) := by decide +kernel
theorem dX12_ownOf_70 : decode cX12_ownOf 70 = .ok (.iload 5, 2) := by decide +kernel
theorem dX12_ownOf_72 : decode cX12_ownOf 72 = .ok (.aload_n 0, 1) := by decide +kernel
theorem dX12_ownOf_73 : decode cX12_ownOf 73 = .ok (.iload 5, 2) := by decide +kernel
theorem dX12_ownOf_75 : decode cX12_ownOf 75 = .ok (.ifCond .ne 7, 3) := by decide +kernel
theorem dX12_ownOf_78 : decode cX12_ownOf 78 = .ok (.iconst 0, 1) := by decide +kernel
theorem dX12_ownOf_79 : decode cX12_ownOf 79 = .ok (.goto 12, 3) := by decide +kernel
theorem dX12_ownOf_82 : decode cX12_ownOf 82 = .ok (.aload_n 0, 1) := by decide +kernel
theorem dX12_ownOf_83 : decode cX12_ownOf 83 = .ok (.getfield 85, 3) := by decide +kernel
theorem dX12_ownOf_86 : decode cX12_ownOf 86 = .ok (.iload 5, 2) := by decide +kernel
theorem dX12_ownOf_88 : decode cX12_ownOf 88 = .ok (.iconst 1, 1) := by decide +kernel
theorem dX12_ownOf_89 : decode cX12_ownOf 89 = .ok (.isub, 1) := by decide +kernel
theorem dX12_ownOf_90 : decode cX12_ownOf 90 = .ok (.iaload, 1) := by decide +kernel
theorem dX12_ownOf_91 : decode cX12_ownOf 91 = .ok (.aload_n 0, 1) := by decide +kernel
theorem dX12_ownOf_92 : decode cX12_ownOf 92 = .ok (.iload 4, 2) := by decide +kernel
theorem dX12_ownOf_94 : decode cX12_ownOf 94 = .ok (.aload_n 0, 1) := by decide +kernel
theorem dX12_ownOf_95 : decode cX12_ownOf 95 = .ok (.getfield 85, 3) := by decide +kernel
theorem dX12_ownOf_98 : decode cX12_ownOf 98 = .ok (.iload 5, 2) := by decide +kernel
theorem dX12_ownOf_100 : decode cX12_ownOf 100 = .ok (.iaload, 1) := by decide +kernel
theorem dX12_ownOf_101 : decode cX12_ownOf 101 = .ok (.invokevirtual 119, 3) := by decide +kernel
theorem dX12_ownOf_104 : decode cX12_ownOf 104 = .ok (.invokevirtual 165, 3) := by decide +kernel
theorem dX12_ownOf_107 : decode cX12_ownOf 107 = .ok (.iastore, 1) := by decide +kernel
theorem dX12_ownOf_108 : decode cX12_ownOf 108 = .ok (.iinc 5 (-1), 3) := by decide +kernel
theorem dX12_ownOf_111 : decode cX12_ownOf 111 = .ok (.goto (-50), 3) := by decide +kernel
theorem dX12_ownOf_114 : decode cX12_ownOf 114 = .ok (.iinc 3 1, 3) := by decide +kernel
theorem dX12_ownOf_117 : decode cX12_ownOf 117 = .ok (.goto (-80), 3) := by decide +kernel
theorem dX12_ownOf_120 : decode cX12_ownOf 120 = .ok (.aload_n 0, 1) := by decide +kernel
theorem dX12_ownOf_121 : decode cX12_ownOf 121 = .ok (.aload_n 0, 1) := by decide +kernel
theorem dX12_ownOf_122 : decode cX12_ownOf 122 = .ok (.getfield 85, 3) := by decide +kernel
theorem dX12_ownOf_125 : decode cX12_ownOf 125 = .ok (.iload_n 2, 1) := by decide +kernel
theorem dX12_ownOf_126 : decode cX12_ownOf 126 = .ok (.iconst 1, 1) := by decide +kernel
theorem dX12_ownOf_127 : decode cX12_ownOf 127 = .ok (.iadd, 1) := by decide +kernel
theorem dX12_ownOf_128 : decode cX12_ownOf 128 = .ok (.invokevirtual 45, 3) := by decide +kernel
theorem dX12_ownOf_131 : decode cX12_ownOf 131 = .ok (.ireturn, 1) := by decide +kernel
set_option maxRecDepth 20000 in
theorem ggX12_heightOf_X12_ownOf : GoodIn wsX12_heightOf wsX12_ownOf := goodIn_r _ [6, 7, 8, 9, 10, 11, 5, 12, 13, 14, 15, 16, 17, 18, 19, 20, 21, 22, 23, 24, 25, 26, 27, 28, 29, 30, 31, 32, 33, 34, 35, 36, 37, 38, 39, 40, 41, 53, 54, 55, 56, 57, 58, 59, 60, 61, 62, 63, 64, 65, 66, 67, 68, 69, 70, 71, 72, 73, 74, 75, 76, 77, 78, 79, 80, 81] (by decide +kernel) (by decide +kernel)
set_option maxRecDepth 20000 in
theorem gX12_heightOf_X12_ownOf : GoodIn wsX12_heightOf (wsV RX12 168 RX12 yX12_ownOf wsX12_ownOf) := goodIn_app (goodIn_of _ (by decide +kernel)) ggX12_heightOf_X12_ownOf
set_option maxRecDepth 20000 in
theorem ggX12_heightOf_X12_act : GoodIn wsX12_heightOf wsX12_act := goodIn_r _ [45, 1, 46, 47, 48, 8, 49, 50, 51, 5, 52, 13, 21, 22, 23, 24, 25, 14, 15, 16, 17, 18, 19, 20, 26, 27, 28, 29, 34, 35, 36, 37, 53, 54, 55, 56, 57, 58, 59, 60, 61, 62, 63, 64, 65, 66, 67, 68, 69, 70, 71, 72, 73, 74, 75, 76, 77, 78, 79, 80, 81] (by decide +kernel) (by decide +kernel)
set_option maxRecDepth 20000 in
theorem gX12_heightOf_X12_act : GoodIn wsX12_heightOf (wsV RX12 171 RX12 yX12_act wsX12_act) := goodIn_app (goodIn_of _ (by decide +kernel)) ggX12_heightOf_X12_act
set_option maxRecDepth 20000 in
theorem ggX12_heightOf_X12_degreeOfOwn : GoodIn wsX12_heightOf wsX12_degreeOfOwn := goodIn_r _ [12, 8, 13, 14, 15, 16, 5, 17, 18, 19, 20, 53, 54, 55, 56, 57, 58, 59, 60, 61, 62, 63, 64, 65, 66, 67, 68, 69, 70, 71, 72, 73, 74, 75, 76, 77, 78, 79, 80, 81] (by decide +kernel) (by decide +kernel)
set_option maxRecDepth 20000 in
theorem gX12_heightOf_X12_degreeOfOwn : GoodIn wsX12_heightOf (wsV RX12 162 RX12 yX12_degreeOfOwn wsX12_degreeOfOwn) := goodIn_app (goodIn_of _ (by decide +kernel)) ggX12_heightOf_X12_degreeOfOwn
theorem dX12_heightOf_0 : decode cX12_heightOf 0 = .ok (.aload_n 0, 1) := by decide +kernel
theorem dX12_heightOf_1 : decode cX12_heightOf 1 = .ok (.iload_n 1, 1) := by decide +kernel
theorem dX12_heightOf_2 : decode cX12_heightOf 2 = .ok (.aload_n 0, 1) := by decide +kernel
theorem dX12_heightOf_3 : decode cX12_heightOf 3 = .ok (.iload_n 1, 1) := by decide +kernel
theorem dX12_heightOf_4 : decode cX12_heightOf 4 = .ok (.invokevirtual 168, 3) := by decide +kernel
theorem dX12_heightOf_7 : decode cX12_heightOf 7 = .ok (.invokevirtual 171, 3) := by decide +kernel
theorem dX12_heightOf_10 : decode cX12_heightOf 10 = .ok (.iconst 0, 1) := by decide +kernel
theorem dX12_heightOf_11 : decode cX12_heightOf 11 = .ok (.istore_n 2, 1) := by decide +kernel
theorem dX12_heightOf_12 : decode cX12_heightOf 12 = .ok (.aload_n 0, 1) := by decide +kernel
theorem dX12_heightOf_13 : decode cX12_heightOf 13 = .ok (.getfield 76, 3) := by decide +kernel
theorem dX12_heightOf_16 : decode cX12_heightOf 16 = .ok (.iload_n 2, 1) := by decide +kernel
theorem dX12_heightOf_17 : decode cX12_heightOf 17 = .ok (.iaload, 1) := by decide +kernel
theorem dX12_heightOf_18 : decode cX12_heightOf 18 = .ok (.ifCond .ne 9, 3) := by decide +kernel
theorem dX12_heightOf_21 : decode cX12_heightOf 21 = .ok (.iinc 2 1, 3) := by decide +kernel
theorem dX12_heightOf_24 : decode cX12_heightOf 24 = .ok (.goto (-12), 3) := by decide +kernel
theorem dX12_heightOf_27 : decode cX12_heightOf 27 = .ok (.iload_n 2, 1) := by decide +kernel
theorem dX12_heightOf_28 : decode cX12_heightOf 28 = .ok (.aload_n 0, 1) := by decide +kernel
theorem dX12_heightOf_29 : decode cX12_heightOf 29 = .ok (.iload_n 1, 1) := by decide +kernel
theorem dX12_heightOf_30 : decode cX12_heightOf 30 = .ok (.invokevirtual 162, 3) := by decide +kernel
theorem dX12_heightOf_33 : decode cX12_heightOf 33 = .ok (.idiv, 1) := by decide +kernel
theorem dX12_heightOf_34 : decode cX12_heightOf 34 = .ok (.ireturn, 1) := by decide +kernel
set_option maxRecDepth 20000 in
theorem ggX12_kindOf_X12_heightOf : GoodIn wsX12_kindOf wsX12_heightOf := goodIn_r _ [6, 7, 8, 9, 10, 5, 11, 12, 13, 14, 15, 16, 17, 18, 19, 20, 21, 22, 23, 24, 25, 26, 27, 28, 29, 30, 31, 32, 33, 34, 35, 36, 37, 38, 39, 40, 41, 42, 43, 44, 45, 46, 47, 48, 49, 50, 51, 52, 1, 53, 54, 55, 56, 57, 58, 59, 60, 61, 62, 63, 64, 65, 66, 67, 68, 69, 70, 71, 72, 73, 74, 75, 76, 77, 78, 79, 80, 81, 82, 83, 84, 85] (by decide +kernel) (by decide +kernel)
set_option maxRecDepth 20000 in
theorem gX12_kindOf_X12_heightOf : GoodIn wsX12_kindOf (wsV RX12 175 RX12 yX12_heightOf wsX12_heightOf) := goodIn_app (goodIn_of _ (by decide +kernel)) ggX12_kindOf_X12_heightOf
theorem dX12_kindOf_0 : decode cX12_kindOf 0 = .ok (.aload_n 0, 1) := by decide +kernel
theorem dX12_kindOf_1 : decode cX12_kindOf 1 = .ok (.getfield 70, 3) := by decide +kernel
theorem dX12_kindOf_4 : decode cX12_kindOf 4 = .ok (.iload_n 1, 1) := by decide +kernel
theorem dX12_kindOf_5 : decode cX12_kindOf 5 = .ok (.iaload, 1) := by decide +kernel
theorem dX12_kindOf_6 : decode cX12_kindOf 6 = .ok (.iconst 1, 1) := by decide +kernel
theorem dX12_kindOf_7 : decode cX12_kindOf 7 = .ok (.if_icmp .ne 7, 3) := by decide +kernel
theorem dX12_kindOf_10 : decode cX12_kindOf 10 = .ok (.iconst 1, 1) := by decide +kernel
theorem dX12_kindOf_11 : decode cX12_kindOf 11 = .ok (.goto 31, 3) := by decide +kernel
theorem dX12_kindOf_14 : decode cX12_kindOf 14 = .ok (.aload_n 0, 1) := by decide +kernel
theorem dX12_kindOf_15 : decode cX12_kindOf 15 = .ok (.getfield 70, 3) := by decide +kernel
theorem dX12_kindOf_18 : decode cX12_kindOf 18 = .ok (.iload_n 1, 1) := by decide +kernel
theorem dX12_kindOf_19 : decode cX12_kindOf 19 = .ok (.iaload, 1) := by decide +kernel
theorem dX12_kindOf_20 : decode cX12_kindOf 20 = .ok (.iconst 3, 1) := by decide +kernel
theorem dX12_kindOf_21 : decode cX12_kindOf 21 = .ok (.if_icmp .ne 7, 3) := by decide +kernel
theorem dX12_kindOf_24 : decode cX12_kindOf 24 = .ok (.iconst 4, 1) := by decide +kernel
theorem dX12_kindOf_25 : decode cX12_kindOf 25 = .ok (.goto 17, 3) := by decide +kernel
theorem dX12_kindOf_28 : decode cX12_kindOf 28 = .ok (.aload_n 0, 1) := by decide +kernel
theorem dX12_kindOf_29 : decode cX12_kindOf 29 = .ok (.iload_n 1, 1) := by decide +kernel
theorem dX12_kindOf_30 : decode cX12_kindOf 30 = .ok (.invokevirtual 175, 3) := by decide +kernel
theorem dX12_kindOf_33 : decode cX12_kindOf 33 = .ok (.iconst 2, 1) := by decide +kernel
theorem dX12_kindOf_34 : decode cX12_kindOf 34 = .ok (.if_icmp .ne 7, 3) := by decide +kernel
theorem dX12_kindOf_37 : decode cX12_kindOf 37 = .ok (.iconst 3, 1) := by decide +kernel
theorem dX12_kindOf_38 : decode cX12_kindOf 38 = .ok (.goto 4, 3) := by decide +kernel
theorem dX12_kindOf_41 : decode cX12_kindOf 41 = .ok (.iconst 2, 1) := by decide +kernel
theorem dX12_kindOf_42 : decode cX12_kindOf 42 = .ok (.ireturn, 1) := by decide +kernel
theorem dX12_isOf_0 : decode cX12_isOf 0 = .ok (.iload_n 1, 1) := by decide +kernel
theorem dX12_isOf_1 : decode cX12_isOf 1 = .ok (.ifCond .eq 18, 3) := by decide +kernel
theorem dX12_isOf_4 : decode cX12_isOf 4 = .ok (.iload_n 0, 1) := by decide +kernel
theorem dX12_isOf_5 : decode cX12_isOf 5 = .ok (.iload_n 1, 1) := by decide +kernel
theorem dX12_isOf_6 : decode cX12_isOf 6 = .ok (.if_icmp .eq 13, 3) := by decide +kernel
theorem dX12_isOf_9 : decode cX12_isOf 9 = .ok (.iload_n 1, 1) := by decide +kernel
theorem dX12_isOf_10 : decode cX12_isOf 10 = .ok (.iconst 2, 1) := by decide +kernel
theorem dX12_isOf_11 : decode cX12_isOf 11 = .ok (.if_icmp .ne 12, 3) := by decide +kernel
theorem dX12_isOf_14 : decode cX12_isOf 14 = .ok (.iload_n 0, 1) := by decide +kernel
theorem dX12_isOf_15 : decode cX12_isOf 15 = .ok (.iconst 3, 1) := by decide +kernel
theorem dX12_isOf_16 : decode cX12_isOf 16 = .ok (.if_icmp .ne 7, 3) := by decide +kernel
theorem dX12_isOf_19 : decode cX12_isOf 19 = .ok (.iconst 1, 1) := by decide +kernel
theorem dX12_isOf_20 : decode cX12_isOf 20 = .ok (.goto 4, 3) := by decide +kernel
theorem dX12_isOf_23 : decode cX12_isOf 23 = .ok (.iconst 0, 1) := by decide +kernel
theorem dX12_isOf_24 : decode cX12_isOf 24 = .ok (.ireturn, 1) := by decide +kernel
set_option maxRecDepth 20000 in
theorem ggX12_lay_X12_kindOf : GoodIn wsX12_lay wsX12_kindOf := goodIn_r _ [9, 2, 10, 11, 12, 8, 13, 14, 15, 16, 17, 18, 19, 3, 20, 21, 22, 23, 24, 25, 26, 27, 28, 29, 30, 31, 32, 33, 34, 35, 36, 37, 38, 39, 40, 41, 42, 43, 44, 45, 46, 47, 48, 49, 50, 51, 52, 53, 54, 55, 56, 57, 58, 59, 60, 61, 62, 63, 64, 65, 66, 67, 68, 69, 70, 71, 72, 73, 74, 75, 76, 77, 78, 79, 80, 81, 82, 83, 84, 85, 86, 87, 88, 89, 90, 91] (by decide +kernel) (by decide +kernel)
set_option maxRecDepth 20000 in
theorem gX12_lay_X12_kindOf : GoodIn wsX12_lay (wsV RX12 178 RX12 yX12_kindOf wsX12_kindOf) := goodIn_app (goodIn_of _ (by decide +kernel)) ggX12_lay_X12_kindOf
theorem dX12_lay_0 : decode cX12_lay 0 = .ok (.aload_n 0, 1) := by decide +kernel
theorem dX12_lay_1 : decode cX12_lay 1 = .ok (.iconst 0, 1) := by decide +kernel
theorem dX12_lay_2 : decode cX12_lay 2 = .ok (.putfield 7, 3) := by decide +kernel
theorem dX12_lay_5 : decode cX12_lay 5 = .ok (.aload_n 0, 1) := by decide +kernel
theorem dX12_lay_6 : decode cX12_lay 6 = .ok (.getfield 70, 3) := by decide +kernel
theorem dX12_lay_9 : decode cX12_lay 9 = .ok (.iload_n 1, 1) := by decide +kernel
theorem dX12_lay_10 : decode cX12_lay 10 = .ok (.iload_n 2, 1) := by decide +kernel
theorem dX12_lay_11 : decode cX12_lay 11 = .ok (.iastore, 1) := by decide +kernel
theorem dX12_lay_12 : decode cX12_lay 12 = .ok (.iconst 0, 1) := by decide +kernel
theorem dX12_lay_13 : decode cX12_lay 13 = .ok (.istore_n 3, 1) := by decide +kernel
theorem dX12_lay_14 : decode cX12_lay 14 = .ok (.iload_n 3, 1) := by decide +kernel
theorem dX12_lay_15 : decode cX12_lay 15 = .ok (.iconst 4, 1) := by decide +kernel
theorem dX12_lay_16 : decode cX12_lay 16 = .ok (.if_icmp .ge 34, 3) := by decide +kernel
theorem dX12_lay_19 : decode cX12_lay 19 = .ok (.aload_n 0, 1) := by decide +kernel
theorem dX12_lay_20 : decode cX12_lay 20 = .ok (.getfield 73, 3) := by decide +kernel
theorem dX12_lay_23 : decode cX12_lay 23 = .ok (.iconst 4, 1) := by decide +kernel
theorem dX12_lay_24 : decode cX12_lay 24 = .ok (.iload_n 1, 1) := by decide +kernel
theorem dX12_lay_25 : decode cX12_lay 25 = .ok (.imul, 1) := by decide +kernel
theorem dX12_lay_26 : decode cX12_lay 26 = .ok (.iload_n 3, 1) := by decide +kernel
theorem dX12_lay_27 : decode cX12_lay 27 = .ok (.iadd, 1) := by decide +kernel
theorem dX12_lay_28 : decode cX12_lay 28 = .ok (.iload_n 3, 1) := by decide +kernel
theorem dX12_lay_29 : decode cX12_lay 29 = .ok (.iload_n 2, 1) := by decide +kernel
theorem dX12_lay_30 : decode cX12_lay 30 = .ok (.if_icmp .le 7, 3) := by decide +kernel
theorem dX12_lay_33 : decode cX12_lay 33 = .ok (.iconst 0, 1) := by decide +kernel
theorem dX12_lay_34 : decode cX12_lay 34 = .ok (.goto 9, 3) := by decide +kernel
theorem dX12_lay_37 : decode cX12_lay 37 = .ok (.aload_n 0, 1) := by decide +kernel
theorem dX12_lay_38 : decode cX12_lay 38 = .ok (.getfield 88, 3) := by decide +kernel
theorem dX12_lay_41 : decode cX12_lay 41 = .ok (.iload_n 3, 1) := by decide +kernel
theorem dX12_lay_42 : decode cX12_lay 42 = .ok (.iaload, 1) := by decide +kernel
theorem dX12_lay_43 : decode cX12_lay 43 = .ok (.iastore, 1) := by decide +kernel
theorem dX12_lay_44 : decode cX12_lay 44 = .ok (.iinc 3 1, 3) := by decide +kernel
theorem dX12_lay_47 : decode cX12_lay 47 = .ok (.goto (-33), 3) := by decide +kernel
theorem dX12_lay_50 : decode cX12_lay 50 = .ok (.aload_n 0, 1) := by decide +kernel
theorem dX12_lay_51 : decode cX12_lay 51 = .ok (.iload_n 1, 1) := by decide +kernel
theorem dX12_lay_52 : decode cX12_lay 52 = .ok (.invokevirtual 178, 3) := by decide +kernel
theorem dX12_lay_55 : decode cX12_lay 55 = .ok (.ireturn, 1) := by decide +kernel
set_option maxRecDepth 20000 in
theorem ggX12_world_X12_isPlace : GoodIn wsX12_world wsX12_isPlace := goodIn_r _ [11, 12, 13, 14, 10, 15] (by decide +kernel) (by decide +kernel)
set_option maxRecDepth 20000 in
theorem gX12_world_X12_isPlace : GoodIn wsX12_world (va_wsS RX12 181 yX12_isPlace wsX12_isPlace) := goodIn_app (goodIn_of _ (by decide +kernel)) ggX12_world_X12_isPlace
set_option maxRecDepth 20000 in
theorem ggX12_world_X12_isRow : GoodIn wsX12_world wsX12_isRow := goodIn_r _ [18, 19, 13, 14, 10, 15] (by decide +kernel) (by decide +kernel)
set_option maxRecDepth 20000 in
theorem gX12_world_X12_isRow : GoodIn wsX12_world (va_wsS RX12 149 yX12_isRow wsX12_isRow) := goodIn_app (goodIn_of _ (by decide +kernel)) ggX12_world_X12_isRow
set_option maxRecDepth 20000 in
theorem ggX12_world_X12_in : GoodIn wsX12_world wsX12_in := goodIn_r _ [15] (by decide +kernel) (by decide +kernel)
set_option maxRecDepth 20000 in
theorem gX12_world_X12_in : GoodIn wsX12_world (va_wsS RX12 129 yX12_in wsX12_in) := goodIn_app (goodIn_of _ (by decide +kernel)) ggX12_world_X12_in
set_option maxRecDepth 20000 in
theorem ggX12_world_X12_found : GoodIn wsX12_world wsX12_found := goodIn_r _ [23, 24, 25, 93, 94, 95, 96, 97, 98, 99, 100, 101, 102, 103, 104, 105, 106, 107, 108, 109, 110, 111, 112, 113, 114, 115, 116, 117, 118, 119, 120, 121] (by decide +kernel) (by decide +kernel)
set_option maxRecDepth 20000 in
theorem gX12_world_X12_found : GoodIn wsX12_world (wsV RX12 154 RX12 yX12_found wsX12_found) := goodIn_app (goodIn_of _ (by decide +kernel)) ggX12_world_X12_found
set_option maxRecDepth 20000 in
theorem ggX12_world_X12_isElement : GoodIn wsX12_world wsX12_isElement := goodIn_r _ [29, 30, 13, 14, 10, 15, 93, 94, 95, 96, 97, 98, 99, 100, 101, 102, 103, 104, 105, 106, 107, 108, 109, 110, 111, 112, 113, 114, 115, 116, 117, 118, 119, 120, 121] (by decide +kernel) (by decide +kernel)
set_option maxRecDepth 20000 in
theorem gX12_world_X12_isElement : GoodIn wsX12_world (wsV RX12 133 RX12 yX12_isElement wsX12_isElement) := goodIn_app (goodIn_of _ (by decide +kernel)) ggX12_world_X12_isElement
set_option maxRecDepth 20000 in
theorem ggX12_world_X12_lay : GoodIn wsX12_world wsX12_lay := goodIn_r _ [34, 24, 35, 36, 6, 37, 38, 39, 10, 40, 41, 42, 43, 44, 45, 46, 47, 48, 49, 50, 51, 52, 53, 54, 55, 56, 57, 58, 59, 60, 61, 30, 62, 63, 64, 65, 66, 67, 68, 69, 70, 71, 72, 73, 74, 75, 76, 77, 78, 79, 80, 81, 82, 83, 84, 85, 86, 87, 88, 89, 90, 91, 92, 93, 94, 95, 96, 97, 98, 99, 100, 101, 102, 103, 104, 105, 106, 107, 108, 109, 110, 111, 112, 113, 114, 115, 116, 117, 118, 119, 120, 121] (by decide +kernel) (by decide +kernel)
set_option maxRecDepth 20000 in
theorem gX12_world_X12_lay : GoodIn wsX12_world (wsV RX12 184 RX12 yX12_lay wsX12_lay) := goodIn_app (goodIn_of _ (by decide +kernel)) ggX12_world_X12_lay
theorem dX12_world_0 : decode cX12_world 0 = .ok (.aload_n 0, 1) := by decide +kernel
theorem dX12_world_1 : decode cX12_world 1 = .ok (.iconst 0, 1) := by decide +kernel
theorem dX12_world_2 : decode cX12_world 2 = .ok (.putfield 1, 3) := by decide +kernel
theorem dX12_world_5 : decode cX12_world 5 = .ok (.iload_n 1, 1) := by decide +kernel
theorem dX12_world_6 : decode cX12_world 6 = .ok (.invokestatic 181, 3) := by decide +kernel
theorem dX12_world_9 : decode cX12_world 9 = .ok (.ifCond .eq 23, 3) := by decide +kernel
theorem dX12_world_12 : decode cX12_world 12 = .ok (.iload_n 2, 1) := by decide +kernel
theorem dX12_world_13 : decode cX12_world 13 = .ok (.invokestatic 149, 3) := by decide +kernel
theorem dX12_world_16 : decode cX12_world 16 = .ok (.ifCond .eq 16, 3) := by decide +kernel
theorem dX12_world_19 : decode cX12_world 19 = .ok (.iload 4, 2) := by decide +kernel
theorem dX12_world_21 : decode cX12_world 21 = .ok (.i2l, 1) := by decide +kernel
theorem dX12_world_22 : decode cX12_world 22 = .ok (.lconst 1, 1) := by decide +kernel
theorem dX12_world_23 : decode cX12_world 23 = .ok (.ldc2_w 137, 3) := by decide +kernel
theorem dX12_world_26 : decode cX12_world 26 = .ok (.invokestatic 129, 3) := by decide +kernel
theorem dX12_world_29 : decode cX12_world 29 = .ok (.ifCond .ne 6, 3) := by decide +kernel
theorem dX12_world_32 : decode cX12_world 32 = .ok (.ldc 141, 2) := by decide +kernel
theorem dX12_world_34 : decode cX12_world 34 = .ok (.ireturn, 1) := by decide +kernel
theorem dX12_world_35 : decode cX12_world 35 = .ok (.aload_n 0, 1) := by decide +kernel
theorem dX12_world_36 : decode cX12_world 36 = .ok (.getfield 61, 3) := by decide +kernel
theorem dX12_world_39 : decode cX12_world 39 = .ok (.iload_n 2, 1) := by decide +kernel
theorem dX12_world_40 : decode cX12_world 40 = .ok (.iaload, 1) := by decide +kernel
theorem dX12_world_41 : decode cX12_world 41 = .ok (.ifCond .ge 9, 3) := by decide +kernel
theorem dX12_world_44 : decode cX12_world 44 = .ok (.aload_n 0, 1) := by decide +kernel
theorem dX12_world_45 : decode cX12_world 45 = .ok (.iconst 1, 1) := by decide +kernel
theorem dX12_world_46 : decode cX12_world 46 = .ok (.invokevirtual 154, 3) := by decide +kernel
theorem dX12_world_49 : decode cX12_world 49 = .ok (.ireturn, 1) := by decide +kernel
theorem dX12_world_50 : decode cX12_world 50 = .ok (.iload_n 3, 1) := by decide +kernel
theorem dX12_world_51 : decode cX12_world 51 = .ok (.ifCond .lt 22, 3) := by decide +kernel
theorem dX12_world_54 : decode cX12_world 54 = .ok (.iload_n 3, 1) := by decide +kernel
theorem dX12_world_55 : decode cX12_world 55 = .ok (.i2l, 1) := by decide +kernel
theorem dX12_world_56 : decode cX12_world 56 = .ok (.iload 4, 2) := by decide +kernel
theorem dX12_world_58 : decode cX12_world 58 = .ok (.i2l, 1) := by decide +kernel
theorem dX12_world_59 : decode cX12_world 59 = .ok (.ladd, 1) := by decide +kernel
theorem dX12_world_60 : decode cX12_world 60 = .ok (.lconst 1, 1) := by decide +kernel
theorem dX12_world_61 : decode cX12_world 61 = .ok (.ladd, 1) := by decide +kernel
theorem dX12_world_62 : decode cX12_world 62 = .ok (.aload_n 0, 1) := by decide +kernel
theorem dX12_world_63 : decode cX12_world 63 = .ok (.getfield 64, 3) := by decide +kernel
theorem dX12_world_66 : decode cX12_world 66 = .ok (.iload_n 2, 1) := by decide +kernel
theorem dX12_world_67 : decode cX12_world 67 = .ok (.iaload, 1) := by decide +kernel
theorem dX12_world_68 : decode cX12_world 68 = .ok (.i2l, 1) := by decide +kernel
theorem dX12_world_69 : decode cX12_world 69 = .ok (.lcmp, 1) := by decide +kernel
theorem dX12_world_70 : decode cX12_world 70 = .ok (.ifCond .le 9, 3) := by decide +kernel
theorem dX12_world_73 : decode cX12_world 73 = .ok (.aload_n 0, 1) := by decide +kernel
theorem dX12_world_74 : decode cX12_world 74 = .ok (.iconst 2, 1) := by decide +kernel
theorem dX12_world_75 : decode cX12_world 75 = .ok (.invokevirtual 154, 3) := by decide +kernel
theorem dX12_world_78 : decode cX12_world 78 = .ok (.ireturn, 1) := by decide +kernel
theorem dX12_world_79 : decode cX12_world 79 = .ok (.iconst 0, 1) := by decide +kernel
theorem dX12_world_80 : decode cX12_world 80 = .ok (.istore 5, 2) := by decide +kernel
theorem dX12_world_82 : decode cX12_world 82 = .ok (.iload 5, 2) := by decide +kernel
theorem dX12_world_84 : decode cX12_world 84 = .ok (.iload 4, 2) := by decide +kernel
theorem dX12_world_86 : decode cX12_world 86 = .ok (.if_icmp .gt 47, 3) := by decide +kernel
theorem dX12_world_89 : decode cX12_world 89 = .ok (.aload_n 0, 1) := by decide +kernel
theorem dX12_world_90 : decode cX12_world 90 = .ok (.getfield 88, 3) := by decide +kernel
theorem dX12_world_93 : decode cX12_world 93 = .ok (.iload 5, 2) := by decide +kernel
theorem dX12_world_95 : decode cX12_world 95 = .ok (.aload_n 0, 1) := by decide +kernel
theorem dX12_world_96 : decode cX12_world 96 = .ok (.getfield 67, 3) := by decide +kernel
theorem dX12_world_99 : decode cX12_world 99 = .ok (.bipush 24, 2) := by decide +kernel
theorem dX12_world_101 : decode cX12_world 101 = .ok (.iload_n 2, 1) := by decide +kernel
theorem dX12_world_102 : decode cX12_world 102 = .ok (.imul, 1) := by decide +kernel
theorem dX12_world_103 : decode cX12_world 103 = .ok (.iload_n 3, 1) := by decide +kernel
theorem dX12_world_104 : decode cX12_world 104 = .ok (.iadd, 1) := by decide +kernel
theorem dX12_world_105 : decode cX12_world 105 = .ok (.iload 5, 2) := by decide +kernel
theorem dX12_world_107 : decode cX12_world 107 = .ok (.iadd, 1) := by decide +kernel
theorem dX12_world_108 : decode cX12_world 108 = .ok (.iaload, 1) := by decide +kernel
theorem dX12_world_109 : decode cX12_world 109 = .ok (.iastore, 1) := by decide +kernel
theorem dX12_world_110 : decode cX12_world 110 = .ok (.aload_n 0, 1) := by decide +kernel
theorem dX12_world_111 : decode cX12_world 111 = .ok (.aload_n 0, 1) := by decide +kernel
theorem dX12_world_112 : decode cX12_world 112 = .ok (.getfield 88, 3) := by decide +kernel
theorem dX12_world_115 : decode cX12_world 115 = .ok (.iload 5, 2) := by decide +kernel
theorem dX12_world_117 : decode cX12_world 117 = .ok (.iaload, 1) := by decide +kernel
theorem dX12_world_118 : decode cX12_world 118 = .ok (.invokevirtual 133, 3) := by decide +kernel
theorem dX12_world_121 : decode cX12_world 121 = .ok (.ifCond .ne 6, 3) := by decide +kernel
theorem dX12_world_124 : decode cX12_world 124 = .ok (.ldc 141, 2) := by decide +kernel
theorem dX12_world_126 : decode cX12_world 126 = .ok (.ireturn, 1) := by decide +kernel
theorem dX12_world_127 : decode cX12_world 127 = .ok (.iinc 5 1, 3) := by decide +kernel
theorem dX12_world_130 : decode cX12_world 130 = .ok (.goto (-48), 3) := by decide +kernel
theorem dX12_world_133 : decode cX12_world 133 = .ok (.aload_n 0, 1) := by decide +kernel
theorem dX12_world_134 : decode cX12_world 134 = .ok (.getfield 88, 3) := by decide +kernel
theorem dX12_world_137 : decode cX12_world 137 = .ok (.iload 4, 2) := by decide +kernel
theorem dX12_world_139 : decode cX12_world 139 = .ok (.iaload, 1) := by decide +kernel
theorem dX12_world_140 : decode cX12_world 140 = .ok (.ifCond .ne 8, 3) := by decide +kernel
theorem dX12_world_143 : decode cX12_world 143 = .ok (.ldc 141, 2) := by decide +kernel
theorem dX12_world_145 : decode cX12_world 145 = .ok (.goto 10, 3) := by decide +kernel
theorem dX12_world_148 : decode cX12_world 148 = .ok (.aload_n 0, 1) := by decide +kernel
theorem dX12_world_149 : decode cX12_world 149 = .ok (.iload_n 1, 1) := by decide +kernel
theorem dX12_world_150 : decode cX12_world 150 = .ok (.iload 4, 2) := by decide +kernel
theorem dX12_world_152 : decode cX12_world 152 = .ok (.invokevirtual 184, 3) := by decide +kernel
theorem dX12_world_155 : decode cX12_world 155 = .ok (.ireturn, 1) := by decide +kernel
set_option maxRecDepth 20000 in
theorem ggX12_turned_X12_power : GoodIn wsX12_turned wsX12_power := goodIn_r _ [6] (by decide +kernel) (by decide +kernel)
set_option maxRecDepth 20000 in
theorem gX12_turned_X12_power : GoodIn wsX12_turned (va_wsS RX12 14 yX12_power wsX12_power) := goodIn_app (goodIn_of _ (by decide +kernel)) ggX12_turned_X12_power
set_option maxRecDepth 20000 in
theorem ggX12_turned_X12_raise : GoodIn wsX12_turned wsX12_raise := goodIn_r _ [10, 11, 12, 13, 18, 19, 20, 21, 22, 23, 24, 25, 26, 27, 28, 29, 30, 31, 32, 33, 34, 35, 36, 37, 38, 39, 40, 41, 42, 43, 44, 45, 46] (by decide +kernel) (by decide +kernel)
set_option maxRecDepth 20000 in
theorem gX12_turned_X12_raise : GoodIn wsX12_turned (wsV RX12 125 RX12 yX12_raise wsX12_raise) := goodIn_app (goodIn_of _ (by decide +kernel)) ggX12_turned_X12_raise
set_option maxRecDepth 20000 in
theorem ggX12_turned_X12_times : GoodIn wsX12_turned wsX12_times := goodIn_r _ [17, 11, 12, 13, 18, 19, 20, 21, 22, 23, 24, 25, 26, 27, 28, 29, 30, 31, 32, 33, 34, 35, 36, 37, 38, 39, 40, 41, 42, 43, 44, 45, 46] (by decide +kernel) (by decide +kernel)
set_option maxRecDepth 20000 in
theorem gX12_turned_X12_times : GoodIn wsX12_turned (wsV RX12 119 RX12 yX12_times wsX12_times) := goodIn_app (goodIn_of _ (by decide +kernel)) ggX12_turned_X12_times
theorem dX12_turned_0 : decode cX12_turned 0 = .ok (.aload_n 0, 1) := by decide +kernel
theorem dX12_turned_1 : decode cX12_turned 1 = .ok (.aload_n 0, 1) := by decide +kernel
theorem dX12_turned_2 : decode cX12_turned 2 = .ok (.getfield 73, 3) := by decide +kernel
theorem dX12_turned_5 : decode cX12_turned 5 = .ok (.iconst 4, 1) := by decide +kernel
theorem dX12_turned_6 : decode cX12_turned 6 = .ok (.iload_n 1, 1) := by decide +kernel
theorem dX12_turned_7 : decode cX12_turned 7 = .ok (.imul, 1) := by decide +kernel
