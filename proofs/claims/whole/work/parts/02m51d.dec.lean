theorem dX11_copy_50 : decode cX11_copy 50 = .ok (.iconst 1, 1) := by decide +kernel
theorem dX11_copy_51 : decode cX11_copy 51 = .ok (.invokevirtual 81, 3) := by decide +kernel
theorem dX11_copy_54 : decode cX11_copy 54 = .ok (.ireturn, 1) := by decide +kernel
theorem dX11_copy_55 : decode cX11_copy 55 = .ok (.aload 6, 2) := by decide +kernel
theorem dX11_copy_57 : decode cX11_copy 57 = .ok (.getfield 102, 3) := by decide +kernel
theorem dX11_copy_60 : decode cX11_copy 60 = .ok (.aload 7, 2) := by decide +kernel
theorem dX11_copy_62 : decode cX11_copy 62 = .ok (.getfield 102, 3) := by decide +kernel
theorem dX11_copy_65 : decode cX11_copy 65 = .ok (.if_icmp .eq 9, 3) := by decide +kernel
theorem dX11_copy_68 : decode cX11_copy 68 = .ok (.aload_n 0, 1) := by decide +kernel
theorem dX11_copy_69 : decode cX11_copy 69 = .ok (.iconst 5, 1) := by decide +kernel
theorem dX11_copy_70 : decode cX11_copy 70 = .ok (.invokevirtual 81, 3) := by decide +kernel
theorem dX11_copy_73 : decode cX11_copy 73 = .ok (.ireturn, 1) := by decide +kernel
theorem dX11_copy_74 : decode cX11_copy 74 = .ok (.aload 6, 2) := by decide +kernel
theorem dX11_copy_76 : decode cX11_copy 76 = .ok (.iload_n 2, 1) := by decide +kernel
theorem dX11_copy_77 : decode cX11_copy 77 = .ok (.iload 5, 2) := by decide +kernel
theorem dX11_copy_79 : decode cX11_copy 79 = .ok (.invokevirtual 95, 3) := by decide +kernel
theorem dX11_copy_82 : decode cX11_copy 82 = .ok (.ifCond .eq 15, 3) := by decide +kernel
theorem dX11_copy_85 : decode cX11_copy 85 = .ok (.aload 7, 2) := by decide +kernel
theorem dX11_copy_87 : decode cX11_copy 87 = .ok (.iload 4, 2) := by decide +kernel
theorem dX11_copy_89 : decode cX11_copy 89 = .ok (.iload 5, 2) := by decide +kernel
theorem dX11_copy_91 : decode cX11_copy 91 = .ok (.invokevirtual 95, 3) := by decide +kernel
theorem dX11_copy_94 : decode cX11_copy 94 = .ok (.ifCond .ne 9, 3) := by decide +kernel
theorem dX11_copy_97 : decode cX11_copy 97 = .ok (.aload_n 0, 1) := by decide +kernel
theorem dX11_copy_98 : decode cX11_copy 98 = .ok (.iconst 2, 1) := by decide +kernel
theorem dX11_copy_99 : decode cX11_copy 99 = .ok (.invokevirtual 81, 3) := by decide +kernel
theorem dX11_copy_102 : decode cX11_copy 102 = .ok (.ireturn, 1) := by decide +kernel
theorem dX11_copy_103 : decode cX11_copy 103 = .ok (.aload 6, 2) := by decide +kernel
theorem dX11_copy_105 : decode cX11_copy 105 = .ok (.getfield 105, 3) := by decide +kernel
theorem dX11_copy_108 : decode cX11_copy 108 = .ok (.iload_n 2, 1) := by decide +kernel
theorem dX11_copy_109 : decode cX11_copy 109 = .ok (.aload 7, 2) := by decide +kernel
theorem dX11_copy_111 : decode cX11_copy 111 = .ok (.getfield 105, 3) := by decide +kernel
theorem dX11_copy_114 : decode cX11_copy 114 = .ok (.iload 4, 2) := by decide +kernel
theorem dX11_copy_116 : decode cX11_copy 116 = .ok (.iload 5, 2) := by decide +kernel
theorem dX11_copy_118 : decode cX11_copy 118 = .ok (.invokestatic 108, 3) := by decide +kernel
theorem dX11_copy_121 : decode cX11_copy 121 = .ok (.aload_n 0, 1) := by decide +kernel
theorem dX11_copy_122 : decode cX11_copy 122 = .ok (.iload 5, 2) := by decide +kernel
theorem dX11_copy_124 : decode cX11_copy 124 = .ok (.invokevirtual 88, 3) := by decide +kernel
theorem dX11_copy_127 : decode cX11_copy 127 = .ok (.ireturn, 1) := by decide +kernel
set_option maxRecDepth 20000 in
theorem ggX11_drop_X11_isRow : GoodIn wsX11_drop wsX11_isRow := goodIn_r _ [6] (by decide +kernel) (by decide +kernel)
set_option maxRecDepth 20000 in
theorem gX11_drop_X11_isRow : GoodIn wsX11_drop (va_wsS RX11 76 yX11_isRow wsX11_isRow) := goodIn_app (goodIn_of _ (by decide +kernel)) ggX11_drop_X11_isRow
set_option maxRecDepth 20000 in
theorem ggX11_drop_X5_isMissing : GoodIn wsX11_drop wsX5_isMissing := goodIn_r _ [11, 12, 35, 36, 37] (by decide +kernel) (by decide +kernel)
set_option maxRecDepth 20000 in
theorem gX11_drop_X5_isMissing : GoodIn wsX11_drop (wsV RX11 91 RX5 yX5_isMissing wsX5_isMissing) := goodIn_app (goodIn_of _ (by decide +kernel)) ggX11_drop_X5_isMissing
set_option maxRecDepth 20000 in
theorem ggX11_drop_X11_found : GoodIn wsX11_drop wsX11_found := goodIn_r _ [16, 17, 18, 27, 28, 29, 30, 31, 32, 33, 34] (by decide +kernel) (by decide +kernel)
set_option maxRecDepth 20000 in
theorem gX11_drop_X11_found : GoodIn wsX11_drop (wsV RX11 81 RX11 yX11_found wsX11_found) := goodIn_app (goodIn_of _ (by decide +kernel)) ggX11_drop_X11_found
set_option maxRecDepth 20000 in
theorem ggX11_drop_X5_end : GoodIn wsX11_drop wsX5_end := goodIn_r _ [22, 12, 35, 36, 37] (by decide +kernel) (by decide +kernel)
set_option maxRecDepth 20000 in
theorem gX11_drop_X5_end : GoodIn wsX11_drop (wsV RX11 114 RX5 yX5_end wsX5_end) := goodIn_app (goodIn_of _ (by decide +kernel)) ggX11_drop_X5_end
set_option maxRecDepth 20000 in
theorem ggX11_drop_X11_fine : GoodIn wsX11_drop wsX11_fine := goodIn_r _ [26, 17, 27, 28, 29, 30, 31, 32, 33, 34] (by decide +kernel) (by decide +kernel)
set_option maxRecDepth 20000 in
theorem gX11_drop_X11_fine : GoodIn wsX11_drop (wsV RX11 88 RX11 yX11_fine wsX11_fine) := goodIn_app (goodIn_of _ (by decide +kernel)) ggX11_drop_X11_fine
theorem dX11_drop_0 : decode cX11_drop 0 = .ok (.iload_n 1, 1) := by decide +kernel
theorem dX11_drop_1 : decode cX11_drop 1 = .ok (.invokestatic 76, 3) := by decide +kernel
theorem dX11_drop_4 : decode cX11_drop 4 = .ok (.ifCond .ne 6, 3) := by decide +kernel
theorem dX11_drop_7 : decode cX11_drop 7 = .ok (.ldc 80, 2) := by decide +kernel
theorem dX11_drop_9 : decode cX11_drop 9 = .ok (.ireturn, 1) := by decide +kernel
theorem dX11_drop_10 : decode cX11_drop 10 = .ok (.aload_n 0, 1) := by decide +kernel
theorem dX11_drop_11 : decode cX11_drop 11 = .ok (.getfield 11, 3) := by decide +kernel
theorem dX11_drop_14 : decode cX11_drop 14 = .ok (.iload_n 1, 1) := by decide +kernel
theorem dX11_drop_15 : decode cX11_drop 15 = .ok (.aaload, 1) := by decide +kernel
theorem dX11_drop_16 : decode cX11_drop 16 = .ok (.invokevirtual 91, 3) := by decide +kernel
theorem dX11_drop_19 : decode cX11_drop 19 = .ok (.ifCond .eq 9, 3) := by decide +kernel
theorem dX11_drop_22 : decode cX11_drop 22 = .ok (.aload_n 0, 1) := by decide +kernel
theorem dX11_drop_23 : decode cX11_drop 23 = .ok (.iconst 1, 1) := by decide +kernel
theorem dX11_drop_24 : decode cX11_drop 24 = .ok (.invokevirtual 81, 3) := by decide +kernel
theorem dX11_drop_27 : decode cX11_drop 27 = .ok (.ireturn, 1) := by decide +kernel
theorem dX11_drop_28 : decode cX11_drop 28 = .ok (.aload_n 0, 1) := by decide +kernel
theorem dX11_drop_29 : decode cX11_drop 29 = .ok (.aload_n 0, 1) := by decide +kernel
theorem dX11_drop_30 : decode cX11_drop 30 = .ok (.getfield 11, 3) := by decide +kernel
theorem dX11_drop_33 : decode cX11_drop 33 = .ok (.iload_n 1, 1) := by decide +kernel
theorem dX11_drop_34 : decode cX11_drop 34 = .ok (.aaload, 1) := by decide +kernel
theorem dX11_drop_35 : decode cX11_drop 35 = .ok (.invokevirtual 114, 3) := by decide +kernel
theorem dX11_drop_38 : decode cX11_drop 38 = .ok (.invokevirtual 88, 3) := by decide +kernel
theorem dX11_drop_41 : decode cX11_drop 41 = .ok (.ireturn, 1) := by decide +kernel
set_option maxRecDepth 20000 in
theorem ggX11_field_X2_has : GoodIn wsX11_field wsX2_has := goodIn_r _ [9, 10, 53, 54, 55, 56, 57, 58, 59, 60] (by decide +kernel) (by decide +kernel)
set_option maxRecDepth 20000 in
theorem gX11_field_X2_has : GoodIn wsX11_field (wsV RX11 118 RX2 yX2_has wsX2_has) := goodIn_app (goodIn_of _ (by decide +kernel)) ggX11_field_X2_has
set_option maxRecDepth 20000 in
theorem ggX11_field_X2_power : GoodIn wsX11_field wsX2_power := goodIn_r _ [14, 15, 16, 17, 8, 18, 19, 20, 21, 22, 23, 24, 25, 26, 27, 28, 29, 30, 53, 54, 55, 56, 57, 58, 59, 60] (by decide +kernel) (by decide +kernel)
set_option maxRecDepth 20000 in
theorem gX11_field_X2_power : GoodIn wsX11_field (wsV RX11 122 RX2 yX2_power wsX2_power) := goodIn_app (goodIn_of _ (by decide +kernel)) ggX11_field_X2_power
set_option maxRecDepth 20000 in
theorem ggX11_field_X2_plusTimes : GoodIn wsX11_field wsX2_plusTimes := goodIn_r _ [34, 35, 36, 37, 8, 38, 23, 25, 24, 19, 20, 21, 22, 26, 27, 28, 29, 30, 53, 54, 55, 56, 57, 58, 59, 60] (by decide +kernel) (by decide +kernel)
set_option maxRecDepth 20000 in
theorem gX11_field_X2_plusTimes : GoodIn wsX11_field (wsV RX11 125 RX2 yX2_plusTimes wsX2_plusTimes) := goodIn_app (goodIn_of _ (by decide +kernel)) ggX11_field_X2_plusTimes
set_option maxRecDepth 20000 in
theorem ggX11_field_X2_times : GoodIn wsX11_field wsX2_times := goodIn_r _ [18, 19, 20, 21, 8, 22, 23, 24, 25, 26, 27, 28, 29, 30, 53, 54, 55, 56, 57, 58, 59, 60] (by decide +kernel) (by decide +kernel)
set_option maxRecDepth 20000 in
theorem gX11_field_X2_times : GoodIn wsX11_field (wsV RX11 129 RX2 yX2_times wsX2_times) := goodIn_app (goodIn_of _ (by decide +kernel)) ggX11_field_X2_times
set_option maxRecDepth 20000 in
theorem ggX11_field_X2_inverse : GoodIn wsX11_field wsX2_inverse := goodIn_r _ [43, 10, 44, 12, 13, 8, 14, 15, 16, 17, 18, 19, 20, 21, 22, 23, 24, 25, 26, 27, 28, 29, 30, 53, 54, 55, 56, 57, 58, 59, 60] (by decide +kernel) (by decide +kernel)
set_option maxRecDepth 20000 in
theorem gX11_field_X2_inverse : GoodIn wsX11_field (wsV RX11 133 RX2 yX2_inverse wsX2_inverse) := goodIn_app (goodIn_of _ (by decide +kernel)) ggX11_field_X2_inverse
theorem dX11_field_0 : decode cX11_field 0 = .ok (.aload_n 0, 1) := by decide +kernel
theorem dX11_field_1 : decode cX11_field 1 = .ok (.getfield 50, 3) := by decide +kernel
theorem dX11_field_4 : decode cX11_field 4 = .ok (.iload_n 1, 1) := by decide +kernel
theorem dX11_field_5 : decode cX11_field 5 = .ok (.invokevirtual 118, 3) := by decide +kernel
theorem dX11_field_8 : decode cX11_field 8 = .ok (.ifCond .eq 12, 3) := by decide +kernel
theorem dX11_field_11 : decode cX11_field 11 = .ok (.iload_n 3, 1) := by decide +kernel
theorem dX11_field_12 : decode cX11_field 12 = .ok (.ifCond .lt 8, 3) := by decide +kernel
theorem dX11_field_15 : decode cX11_field 15 = .ok (.iload_n 3, 1) := by decide +kernel
theorem dX11_field_16 : decode cX11_field 16 = .ok (.iconst 3, 1) := by decide +kernel
theorem dX11_field_17 : decode cX11_field 17 = .ok (.if_icmp .le 6, 3) := by decide +kernel
theorem dX11_field_20 : decode cX11_field 20 = .ok (.ldc 80, 2) := by decide +kernel
theorem dX11_field_22 : decode cX11_field 22 = .ok (.ireturn, 1) := by decide +kernel
theorem dX11_field_23 : decode cX11_field 23 = .ok (.iload_n 3, 1) := by decide +kernel
theorem dX11_field_24 : decode cX11_field 24 = .ok (.iconst 2, 1) := by decide +kernel
theorem dX11_field_25 : decode cX11_field 25 = .ok (.if_icmp .ne 28, 3) := by decide +kernel
theorem dX11_field_28 : decode cX11_field 28 = .ok (.iload_n 2, 1) := by decide +kernel
theorem dX11_field_29 : decode cX11_field 29 = .ok (.ifCond .lt 9, 3) := by decide +kernel
theorem dX11_field_32 : decode cX11_field 32 = .ok (.iload_n 2, 1) := by decide +kernel
theorem dX11_field_33 : decode cX11_field 33 = .ok (.ldc 121, 2) := by decide +kernel
theorem dX11_field_35 : decode cX11_field 35 = .ok (.if_icmp .le 8, 3) := by decide +kernel
theorem dX11_field_38 : decode cX11_field 38 = .ok (.ldc 80, 2) := by decide +kernel
theorem dX11_field_40 : decode cX11_field 40 = .ok (.goto 12, 3) := by decide +kernel
theorem dX11_field_43 : decode cX11_field 43 = .ok (.aload_n 0, 1) := by decide +kernel
theorem dX11_field_44 : decode cX11_field 44 = .ok (.getfield 50, 3) := by decide +kernel
theorem dX11_field_47 : decode cX11_field 47 = .ok (.iload_n 1, 1) := by decide +kernel
theorem dX11_field_48 : decode cX11_field 48 = .ok (.iload_n 2, 1) := by decide +kernel
theorem dX11_field_49 : decode cX11_field 49 = .ok (.invokevirtual 122, 3) := by decide +kernel
theorem dX11_field_52 : decode cX11_field 52 = .ok (.ireturn, 1) := by decide +kernel
theorem dX11_field_53 : decode cX11_field 53 = .ok (.aload_n 0, 1) := by decide +kernel
theorem dX11_field_54 : decode cX11_field 54 = .ok (.getfield 50, 3) := by decide +kernel
theorem dX11_field_57 : decode cX11_field 57 = .ok (.iload_n 2, 1) := by decide +kernel
theorem dX11_field_58 : decode cX11_field 58 = .ok (.invokevirtual 118, 3) := by decide +kernel
theorem dX11_field_61 : decode cX11_field 61 = .ok (.ifCond .ne 6, 3) := by decide +kernel
theorem dX11_field_64 : decode cX11_field 64 = .ok (.ldc 80, 2) := by decide +kernel
theorem dX11_field_66 : decode cX11_field 66 = .ok (.ireturn, 1) := by decide +kernel
theorem dX11_field_67 : decode cX11_field 67 = .ok (.iload_n 3, 1) := by decide +kernel
theorem dX11_field_68 : decode cX11_field 68 = .ok (.ifCond .ne 14, 3) := by decide +kernel
theorem dX11_field_71 : decode cX11_field 71 = .ok (.aload_n 0, 1) := by decide +kernel
theorem dX11_field_72 : decode cX11_field 72 = .ok (.getfield 50, 3) := by decide +kernel
theorem dX11_field_75 : decode cX11_field 75 = .ok (.iload_n 1, 1) := by decide +kernel
theorem dX11_field_76 : decode cX11_field 76 = .ok (.iconst 1, 1) := by decide +kernel
theorem dX11_field_77 : decode cX11_field 77 = .ok (.iload_n 2, 1) := by decide +kernel
theorem dX11_field_78 : decode cX11_field 78 = .ok (.invokevirtual 125, 3) := by decide +kernel
theorem dX11_field_81 : decode cX11_field 81 = .ok (.ireturn, 1) := by decide +kernel
theorem dX11_field_82 : decode cX11_field 82 = .ok (.iload_n 3, 1) := by decide +kernel
theorem dX11_field_83 : decode cX11_field 83 = .ok (.iconst 1, 1) := by decide +kernel
theorem dX11_field_84 : decode cX11_field 84 = .ok (.if_icmp .ne 13, 3) := by decide +kernel
theorem dX11_field_87 : decode cX11_field 87 = .ok (.aload_n 0, 1) := by decide +kernel
theorem dX11_field_88 : decode cX11_field 88 = .ok (.getfield 50, 3) := by decide +kernel
theorem dX11_field_91 : decode cX11_field 91 = .ok (.iload_n 1, 1) := by decide +kernel
theorem dX11_field_92 : decode cX11_field 92 = .ok (.iload_n 2, 1) := by decide +kernel
theorem dX11_field_93 : decode cX11_field 93 = .ok (.invokevirtual 129, 3) := by decide +kernel
theorem dX11_field_96 : decode cX11_field 96 = .ok (.ireturn, 1) := by decide +kernel
theorem dX11_field_97 : decode cX11_field 97 = .ok (.iload_n 2, 1) := by decide +kernel
theorem dX11_field_98 : decode cX11_field 98 = .ok (.ifCond .ne 8, 3) := by decide +kernel
theorem dX11_field_101 : decode cX11_field 101 = .ok (.ldc 132, 2) := by decide +kernel
theorem dX11_field_103 : decode cX11_field 103 = .ok (.goto 19, 3) := by decide +kernel
theorem dX11_field_106 : decode cX11_field 106 = .ok (.aload_n 0, 1) := by decide +kernel
theorem dX11_field_107 : decode cX11_field 107 = .ok (.getfield 50, 3) := by decide +kernel
theorem dX11_field_110 : decode cX11_field 110 = .ok (.iload_n 1, 1) := by decide +kernel
theorem dX11_field_111 : decode cX11_field 111 = .ok (.aload_n 0, 1) := by decide +kernel
theorem dX11_field_112 : decode cX11_field 112 = .ok (.getfield 50, 3) := by decide +kernel
theorem dX11_field_115 : decode cX11_field 115 = .ok (.iload_n 2, 1) := by decide +kernel
theorem dX11_field_116 : decode cX11_field 116 = .ok (.invokevirtual 133, 3) := by decide +kernel
theorem dX11_field_119 : decode cX11_field 119 = .ok (.invokevirtual 129, 3) := by decide +kernel
theorem dX11_field_122 : decode cX11_field 122 = .ok (.ireturn, 1) := by decide +kernel
set_option maxRecDepth 20000 in
theorem ggX11_world_X11_isPlace : GoodIn wsX11_world wsX11_isPlace := goodIn_r _ [12] (by decide +kernel) (by decide +kernel)
set_option maxRecDepth 20000 in
theorem gX11_world_X11_isPlace : GoodIn wsX11_world (va_wsS RX11 136 yX11_isPlace wsX11_isPlace) := goodIn_app (goodIn_of _ (by decide +kernel)) ggX11_world_X11_isPlace
set_option maxRecDepth 20000 in
theorem ggX11_world_X11_isRow : GoodIn wsX11_world wsX11_isRow := goodIn_r _ [15] (by decide +kernel) (by decide +kernel)
set_option maxRecDepth 20000 in
theorem gX11_world_X11_isRow : GoodIn wsX11_world (va_wsS RX11 76 yX11_isRow wsX11_isRow) := goodIn_app (goodIn_of _ (by decide +kernel)) ggX11_world_X11_isRow
set_option maxRecDepth 20000 in
theorem ggX11_world_X11_take : GoodIn wsX11_world wsX11_take := goodIn_r _ [19, 20, 3, 21, 22, 1, 23, 24, 25, 26, 27, 28, 29, 30, 31, 11, 32, 33, 34, 35, 36, 37, 38, 39, 40, 41, 42, 43, 44, 264, 265, 266, 267, 268, 269, 270, 271, 272, 273, 274, 275, 276, 277, 278, 279, 280, 281, 282] (by decide +kernel) (by decide +kernel)
set_option maxRecDepth 20000 in
theorem gX11_world_X11_take : GoodIn wsX11_world (wsV RX11 139 RX11 yX11_take wsX11_take) := goodIn_app (goodIn_of _ (by decide +kernel)) ggX11_world_X11_take
set_option maxRecDepth 20000 in
theorem ggX11_world_X8_worldOf : GoodIn wsX11_world wsX8_worldOf := goodIn_r _ [49, 50, 51, 52, 53, 54, 55, 56, 57, 58, 59, 60, 61, 62, 63, 64, 65, 66, 48, 67, 68, 69, 70, 71, 72, 73, 74, 75, 76, 77, 78, 79, 80, 81, 82, 83, 84, 85, 86, 87, 88, 89, 90, 91, 92, 93, 94, 95, 96, 97, 98, 99, 100, 101, 102, 103, 104, 105, 106, 107, 108, 109, 110, 111, 112, 113, 114, 115, 116, 117, 118, 119, 120, 121, 122, 123, 124, 125, 126, 127, 128, 129, 42, 130, 131, 132, 133, 134, 135, 136, 137, 138, 139, 140, 141, 142, 143, 144, 145, 146, 147, 148, 149, 150, 151, 152, 153, 154, 155, 156, 157, 158, 159, 160, 161, 162, 163, 164, 165, 166, 167, 168, 169, 170, 171, 172, 173, 174, 44, 175, 176, 177, 178, 179, 180, 181, 182, 183, 184, 185, 186, 187, 188, 189, 190, 191, 192, 193, 194, 195, 196, 197, 198, 199, 200, 201, 202, 203, 204, 205, 206, 5, 6, 7, 207, 208, 209, 210, 211, 212, 213, 214, 215, 216, 217, 218, 219, 220, 221, 222, 223, 224, 225, 226, 227, 228, 229, 230, 231, 232, 233, 234, 235, 236, 237, 238, 239, 240, 283, 284, 285, 286, 287, 288, 289, 290, 291, 292, 293, 294, 295, 296, 297, 298, 299, 300, 275, 276, 277, 278, 279, 280, 281, 282, 301, 302, 303, 304, 305, 306, 307, 308, 309, 310, 311, 312, 313, 314, 315, 316, 317, 318, 319, 320] (by decide +kernel) (by decide +kernel)
set_option maxRecDepth 20000 in
theorem gX11_world_X8_worldOf : GoodIn wsX11_world (wsV RX11 142 RX8 yX8_worldOf wsX8_worldOf) := goodIn_app (goodIn_of _ (by decide +kernel)) ggX11_world_X8_worldOf
set_option maxRecDepth 20000 in
theorem ggX11_world_X11_shelve : GoodIn wsX11_world wsX11_shelve := goodIn_r _ [244, 245, 246, 247, 248, 249, 56, 250, 251, 252, 53, 253, 254, 255, 60, 256, 257, 258, 63, 259, 260, 261, 262, 11, 263, 33, 264, 265, 266, 267, 268, 269, 270, 271] (by decide +kernel) (by decide +kernel)
set_option maxRecDepth 20000 in
theorem gX11_world_X11_shelve : GoodIn wsX11_world (wsV RX11 146 RX11 yX11_shelve wsX11_shelve) := goodIn_app (goodIn_of _ (by decide +kernel)) ggX11_world_X11_shelve
theorem dX11_world_0 : decode cX11_world 0 = .ok (.iload_n 1, 1) := by decide +kernel
theorem dX11_world_1 : decode cX11_world 1 = .ok (.invokestatic 136, 3) := by decide +kernel
theorem dX11_world_4 : decode cX11_world 4 = .ok (.ifCond .eq 22, 3) := by decide +kernel
theorem dX11_world_7 : decode cX11_world 7 = .ok (.iload_n 2, 1) := by decide +kernel
theorem dX11_world_8 : decode cX11_world 8 = .ok (.invokestatic 76, 3) := by decide +kernel
theorem dX11_world_11 : decode cX11_world 11 = .ok (.ifCond .eq 15, 3) := by decide +kernel
theorem dX11_world_14 : decode cX11_world 14 = .ok (.iload 4, 2) := by decide +kernel
theorem dX11_world_16 : decode cX11_world 16 = .ok (.iconst 1, 1) := by decide +kernel
theorem dX11_world_17 : decode cX11_world 17 = .ok (.if_icmp .lt 9, 3) := by decide +kernel
theorem dX11_world_20 : decode cX11_world 20 = .ok (.iload 4, 2) := by decide +kernel
theorem dX11_world_22 : decode cX11_world 22 = .ok (.iconst 3, 1) := by decide +kernel
theorem dX11_world_23 : decode cX11_world 23 = .ok (.if_icmp .le 6, 3) := by decide +kernel
theorem dX11_world_26 : decode cX11_world 26 = .ok (.ldc 80, 2) := by decide +kernel
theorem dX11_world_28 : decode cX11_world 28 = .ok (.ireturn, 1) := by decide +kernel
theorem dX11_world_29 : decode cX11_world 29 = .ok (.aload_n 0, 1) := by decide +kernel
theorem dX11_world_30 : decode cX11_world 30 = .ok (.iload_n 2, 1) := by decide +kernel
theorem dX11_world_31 : decode cX11_world 31 = .ok (.iload_n 3, 1) := by decide +kernel
theorem dX11_world_32 : decode cX11_world 32 = .ok (.iload 4, 2) := by decide +kernel
theorem dX11_world_34 : decode cX11_world 34 = .ok (.invokevirtual 139, 3) := by decide +kernel
theorem dX11_world_37 : decode cX11_world 37 = .ok (.istore 5, 2) := by decide +kernel
theorem dX11_world_39 : decode cX11_world 39 = .ok (.iload 5, 2) := by decide +kernel
theorem dX11_world_41 : decode cX11_world 41 = .ok (.ifCond .eq 6, 3) := by decide +kernel
theorem dX11_world_44 : decode cX11_world 44 = .ok (.iload 5, 2) := by decide +kernel
theorem dX11_world_46 : decode cX11_world 46 = .ok (.ireturn, 1) := by decide +kernel
theorem dX11_world_47 : decode cX11_world 47 = .ok (.iconst 4, 1) := by decide +kernel
theorem dX11_world_48 : decode cX11_world 48 = .ok (.newarray .int, 2) := by decide +kernel
theorem dX11_world_50 : decode cX11_world 50 = .ok (.astore 6, 2) := by decide +kernel
theorem dX11_world_52 : decode cX11_world 52 = .ok (.aload_n 0, 1) := by decide +kernel
theorem dX11_world_53 : decode cX11_world 53 = .ok (.getfield 28, 3) := by decide +kernel
theorem dX11_world_56 : decode cX11_world 56 = .ok (.iconst 0, 1) := by decide +kernel
theorem dX11_world_57 : decode cX11_world 57 = .ok (.aload 6, 2) := by decide +kernel
theorem dX11_world_59 : decode cX11_world 59 = .ok (.iconst 0, 1) := by decide +kernel
theorem dX11_world_60 : decode cX11_world 60 = .ok (.iload 4, 2) := by decide +kernel
theorem dX11_world_62 : decode cX11_world 62 = .ok (.iconst 1, 1) := by decide +kernel
theorem dX11_world_63 : decode cX11_world 63 = .ok (.iadd, 1) := by decide +kernel
theorem dX11_world_64 : decode cX11_world 64 = .ok (.invokestatic 108, 3) := by decide +kernel
theorem dX11_world_67 : decode cX11_world 67 = .ok (.aload_n 0, 1) := by decide +kernel
theorem dX11_world_68 : decode cX11_world 68 = .ok (.iload_n 1, 1) := by decide +kernel
theorem dX11_world_69 : decode cX11_world 69 = .ok (.aload_n 0, 1) := by decide +kernel
theorem dX11_world_70 : decode cX11_world 70 = .ok (.getfield 64, 3) := by decide +kernel
theorem dX11_world_73 : decode cX11_world 73 = .ok (.aload 6, 2) := by decide +kernel
theorem dX11_world_75 : decode cX11_world 75 = .ok (.iload 4, 2) := by decide +kernel
theorem dX11_world_77 : decode cX11_world 77 = .ok (.invokevirtual 142, 3) := by decide +kernel
theorem dX11_world_80 : decode cX11_world 80 = .ok (.invokevirtual 146, 3) := by decide +kernel
theorem dX11_world_83 : decode cX11_world 83 = .ok (.ireturn, 1) := by decide +kernel
set_option maxRecDepth 20000 in
theorem ggX11_turn_X11_isPlace : GoodIn wsX11_turn wsX11_isPlace := goodIn_r _ [9] (by decide +kernel) (by decide +kernel)
set_option maxRecDepth 20000 in
theorem gX11_turn_X11_isPlace : GoodIn wsX11_turn (va_wsS RX11 136 yX11_isPlace wsX11_isPlace) := goodIn_app (goodIn_of _ (by decide +kernel)) ggX11_turn_X11_isPlace
set_option maxRecDepth 20000 in
theorem ggX11_turn_X2_has : GoodIn wsX11_turn wsX2_has := goodIn_r _ [14, 15, 274, 275, 276, 277, 278, 279, 280, 281] (by decide +kernel) (by decide +kernel)
set_option maxRecDepth 20000 in
theorem gX11_turn_X2_has : GoodIn wsX11_turn (wsV RX11 118 RX2 yX2_has wsX2_has) := goodIn_app (goodIn_of _ (by decide +kernel)) ggX11_turn_X2_has
set_option maxRecDepth 20000 in
theorem ggX11_turn_X11_found : GoodIn wsX11_turn wsX11_found := goodIn_r _ [19, 20, 21, 248, 249, 250, 251, 252, 253, 254, 255] (by decide +kernel) (by decide +kernel)
set_option maxRecDepth 20000 in
theorem gX11_turn_X11_found : GoodIn wsX11_turn (wsV RX11 81 RX11 yX11_found wsX11_found) := goodIn_app (goodIn_of _ (by decide +kernel)) ggX11_turn_X11_found
set_option maxRecDepth 20000 in
theorem ggX11_turn_X8_turned : GoodIn wsX11_turn wsX8_turned := goodIn_r _ [26, 27, 28, 29, 30, 31, 32, 33, 13, 34, 15, 35, 36, 37, 38, 39, 40, 41, 42, 43, 44, 45, 46, 47, 48, 49, 50, 51, 52, 53, 54, 55, 56, 57, 58, 59, 60, 282, 283, 284, 285, 286, 287, 288, 289, 290, 291, 256, 257, 258, 259, 260, 261, 262, 263, 264, 265, 266, 267, 268, 269, 270, 271, 272, 273, 274, 275, 276, 277, 278, 279, 280, 281] (by decide +kernel) (by decide +kernel)
set_option maxRecDepth 20000 in
theorem gX11_turn_X8_turned : GoodIn wsX11_turn (wsV RX11 150 RX8 yX8_turned wsX8_turned) := goodIn_app (goodIn_of _ (by decide +kernel)) ggX11_turn_X8_turned
set_option maxRecDepth 20000 in
theorem ggX11_turn_X8_worldOf : GoodIn wsX11_turn wsX8_worldOf := goodIn_r _ [64, 28, 65, 66, 67, 68, 69, 70, 71, 72, 73, 74, 75, 76, 77, 78, 79, 80, 25, 81, 82, 83, 84, 85, 86, 87, 88, 89, 90, 91, 92, 93, 94, 95, 96, 97, 98, 99, 100, 101, 102, 103, 104, 105, 106, 107, 108, 109, 110, 111, 112, 113, 114, 115, 116, 117, 118, 119, 120, 121, 122, 123, 124, 125, 126, 127, 128, 129, 130, 131, 132, 133, 134, 135, 136, 137, 138, 139, 140, 55, 40, 41, 13, 42, 43, 44, 45, 46, 47, 48, 49, 50, 51, 52, 53, 54, 141, 142, 143, 144, 145, 146, 147, 148, 149, 150, 151, 152, 153, 154, 155, 156, 157, 158, 159, 160, 161, 162, 163, 164, 36, 37, 38, 39, 31, 32, 33, 34, 15, 35, 165, 166, 167, 168, 169, 170, 171, 172, 173, 174, 175, 176, 177, 178, 179, 29, 180, 181, 182, 183, 184, 185, 186, 30, 187, 188, 189, 190, 191, 192, 193, 194, 195, 196, 197, 198, 199, 200, 201, 202, 203, 204, 56, 57, 58, 59, 60, 205, 206, 207, 208, 209, 210, 211, 212, 213, 214, 215, 216, 217, 218, 219, 220, 221, 222, 223, 224, 225, 282, 283, 284, 285, 286, 287, 288, 289, 290, 291, 260, 261, 262, 263, 256, 257, 258, 259, 274, 275, 276, 277, 278, 279, 280, 281, 264, 265, 266, 267, 268, 269, 270, 271, 272, 273, 292, 293, 294, 295, 296, 297, 298, 299, 300, 301] (by decide +kernel) (by decide +kernel)
set_option maxRecDepth 20000 in
theorem gX11_turn_X8_worldOf : GoodIn wsX11_turn (wsV RX11 142 RX8 yX8_worldOf wsX8_worldOf) := goodIn_app (goodIn_of _ (by decide +kernel)) ggX11_turn_X8_worldOf
set_option maxRecDepth 20000 in
theorem ggX11_turn_X11_shelve : GoodIn wsX11_turn wsX11_shelve := goodIn_r _ [229, 3, 230, 231, 232, 233, 70, 234, 235, 236, 67, 237, 238, 239, 74, 240, 241, 242, 77, 243, 244, 245, 246, 8, 247, 20, 248, 249, 250, 251, 252, 253, 254, 255] (by decide +kernel) (by decide +kernel)
set_option maxRecDepth 20000 in
theorem gX11_turn_X11_shelve : GoodIn wsX11_turn (wsV RX11 146 RX11 yX11_shelve wsX11_shelve) := goodIn_app (goodIn_of _ (by decide +kernel)) ggX11_turn_X11_shelve
theorem dX11_turn_0 : decode cX11_turn 0 = .ok (.iload_n 1, 1) := by decide +kernel
theorem dX11_turn_1 : decode cX11_turn 1 = .ok (.invokestatic 136, 3) := by decide +kernel
theorem dX11_turn_4 : decode cX11_turn 4 = .ok (.ifCond .eq 25, 3) := by decide +kernel
theorem dX11_turn_7 : decode cX11_turn 7 = .ok (.iload_n 2, 1) := by decide +kernel
theorem dX11_turn_8 : decode cX11_turn 8 = .ok (.invokestatic 136, 3) := by decide +kernel
theorem dX11_turn_11 : decode cX11_turn 11 = .ok (.ifCond .eq 18, 3) := by decide +kernel
theorem dX11_turn_14 : decode cX11_turn 14 = .ok (.iload_n 3, 1) := by decide +kernel
theorem dX11_turn_15 : decode cX11_turn 15 = .ok (.ifCond .eq 14, 3) := by decide +kernel
theorem dX11_turn_18 : decode cX11_turn 18 = .ok (.aload_n 0, 1) := by decide +kernel
theorem dX11_turn_19 : decode cX11_turn 19 = .ok (.getfield 50, 3) := by decide +kernel
theorem dX11_turn_22 : decode cX11_turn 22 = .ok (.iload_n 3, 1) := by decide +kernel
theorem dX11_turn_23 : decode cX11_turn 23 = .ok (.invokevirtual 118, 3) := by decide +kernel
theorem dX11_turn_26 : decode cX11_turn 26 = .ok (.ifCond .ne 6, 3) := by decide +kernel
theorem dX11_turn_29 : decode cX11_turn 29 = .ok (.ldc 80, 2) := by decide +kernel
theorem dX11_turn_31 : decode cX11_turn 31 = .ok (.ireturn, 1) := by decide +kernel
theorem dX11_turn_32 : decode cX11_turn 32 = .ok (.aload_n 0, 1) := by decide +kernel
theorem dX11_turn_33 : decode cX11_turn 33 = .ok (.getfield 17, 3) := by decide +kernel
theorem dX11_turn_36 : decode cX11_turn 36 = .ok (.iload_n 2, 1) := by decide +kernel
theorem dX11_turn_37 : decode cX11_turn 37 = .ok (.aaload, 1) := by decide +kernel
theorem dX11_turn_38 : decode cX11_turn 38 = .ok (.astore 4, 2) := by decide +kernel
theorem dX11_turn_40 : decode cX11_turn 40 = .ok (.aload 4, 2) := by decide +kernel
theorem dX11_turn_42 : decode cX11_turn 42 = .ok (.ifnonnull 9, 3) := by decide +kernel
theorem dX11_turn_45 : decode cX11_turn 45 = .ok (.aload_n 0, 1) := by decide +kernel
theorem dX11_turn_46 : decode cX11_turn 46 = .ok (.iconst 1, 1) := by decide +kernel
theorem dX11_turn_47 : decode cX11_turn 47 = .ok (.invokevirtual 81, 3) := by decide +kernel
theorem dX11_turn_50 : decode cX11_turn 50 = .ok (.ireturn, 1) := by decide +kernel
theorem dX11_turn_51 : decode cX11_turn 51 = .ok (.aload_n 0, 1) := by decide +kernel
theorem dX11_turn_52 : decode cX11_turn 52 = .ok (.iload_n 1, 1) := by decide +kernel
theorem dX11_turn_53 : decode cX11_turn 53 = .ok (.aload_n 0, 1) := by decide +kernel
theorem dX11_turn_54 : decode cX11_turn 54 = .ok (.getfield 64, 3) := by decide +kernel
theorem dX11_turn_57 : decode cX11_turn 57 = .ok (.aload_n 0, 1) := by decide +kernel
theorem dX11_turn_58 : decode cX11_turn 58 = .ok (.getfield 64, 3) := by decide +kernel
theorem dX11_turn_61 : decode cX11_turn 61 = .ok (.aload 4, 2) := by decide +kernel
theorem dX11_turn_63 : decode cX11_turn 63 = .ok (.iload_n 3, 1) := by decide +kernel
theorem dX11_turn_64 : decode cX11_turn 64 = .ok (.invokevirtual 150, 3) := by decide +kernel
theorem dX11_turn_67 : decode cX11_turn 67 = .ok (.aload 4, 2) := by decide +kernel
theorem dX11_turn_69 : decode cX11_turn 69 = .ok (.getfield 154, 3) := by decide +kernel
theorem dX11_turn_72 : decode cX11_turn 72 = .ok (.invokevirtual 142, 3) := by decide +kernel
theorem dX11_turn_75 : decode cX11_turn 75 = .ok (.invokevirtual 146, 3) := by decide +kernel
theorem dX11_turn_78 : decode cX11_turn 78 = .ok (.ireturn, 1) := by decide +kernel
set_option maxRecDepth 20000 in
theorem ggX11_map_X11_isPlace : GoodIn wsX11_map wsX11_isPlace := goodIn_r _ [11] (by decide +kernel) (by decide +kernel)
set_option maxRecDepth 20000 in
theorem gX11_map_X11_isPlace : GoodIn wsX11_map (va_wsS RX11 136 yX11_isPlace wsX11_isPlace) := goodIn_app (goodIn_of _ (by decide +kernel)) ggX11_map_X11_isPlace
set_option maxRecDepth 20000 in
theorem ggX11_map_X11_isRow : GoodIn wsX11_map wsX11_isRow := goodIn_r _ [14] (by decide +kernel) (by decide +kernel)
set_option maxRecDepth 20000 in
theorem gX11_map_X11_isRow : GoodIn wsX11_map (va_wsS RX11 76 yX11_isRow wsX11_isRow) := goodIn_app (goodIn_of _ (by decide +kernel)) ggX11_map_X11_isRow
set_option maxRecDepth 20000 in
theorem ggX11_map_X11_takeMap : GoodIn wsX11_map wsX11_takeMap := goodIn_r _ [18, 4, 1, 19, 20, 21, 10, 22, 23, 24, 25, 26, 27, 28, 29, 30, 31, 32, 33, 34, 35, 36, 37, 38, 39, 40, 41, 42, 43, 44, 45, 46, 47, 300, 301, 302, 303, 304, 305, 306, 307, 336, 337, 338, 339, 340, 341, 342, 343, 344, 345, 346] (by decide +kernel) (by decide +kernel)
set_option maxRecDepth 20000 in
theorem gX11_map_X11_takeMap : GoodIn wsX11_map (wsV RX11 157 RX11 yX11_takeMap wsX11_takeMap) := goodIn_app (goodIn_of _ (by decide +kernel)) ggX11_map_X11_takeMap
set_option maxRecDepth 20000 in
theorem ggX11_map_X8_leads : GoodIn wsX11_map wsX8_leads := goodIn_r _ [52, 53, 54, 55, 56, 57, 58, 51, 59, 60, 61, 62, 63, 64, 65, 66, 67, 68, 69, 70, 71, 72, 45, 73, 74, 75, 76, 77, 78, 79, 80, 81, 82, 83, 84, 85, 86, 87, 88, 89, 90, 91, 92, 93, 94, 95, 96, 97, 98, 99, 100, 101, 102, 103, 104, 47, 105, 106, 107, 108, 109, 110, 111, 112, 113, 114, 115, 116, 117, 118, 119, 120, 121, 122, 318, 319, 320, 321, 322, 323, 324, 325, 326, 327, 328, 329, 330, 331, 332, 333, 334, 335, 308, 309, 310, 311, 312, 313, 314, 315, 316, 317, 339, 340, 341, 342, 343, 344, 345, 346] (by decide +kernel) (by decide +kernel)
set_option maxRecDepth 20000 in
theorem gX11_map_X8_leads : GoodIn wsX11_map (wsV RX11 161 RX8 yX8_leads wsX8_leads) := goodIn_app (goodIn_of _ (by decide +kernel)) ggX11_map_X8_leads
set_option maxRecDepth 20000 in
theorem ggX11_map_X11_fine : GoodIn wsX11_map wsX11_fine := goodIn_r _ [126, 23, 300, 301, 302, 303, 304, 305, 306, 307] (by decide +kernel) (by decide +kernel)
set_option maxRecDepth 20000 in
theorem gX11_map_X11_fine : GoodIn wsX11_map (wsV RX11 88 RX11 yX11_fine wsX11_fine) := goodIn_app (goodIn_of _ (by decide +kernel)) ggX11_map_X11_fine
set_option maxRecDepth 20000 in
theorem ggX11_map_J7_copyOf_59c91 : GoodIn wsX11_map wsJ7_copyOf_59c91 := goodIn_r _ [129, 130, 131, 132, 133, 134, 135, 136, 137, 138, 139, 140, 141, 62, 63, 64] (by decide +kernel) (by decide +kernel)
set_option maxRecDepth 20000 in
theorem gX11_map_J7_copyOf_59c91 : GoodIn wsX11_map (va_wsS RX11 168 yJ7_copyOf_59c91 wsJ7_copyOf_59c91) := goodIn_app (goodIn_of _ (by decide +kernel)) ggX11_map_J7_copyOf_59c91
set_option maxRecDepth 20000 in
theorem ggX11_map_X8_worldOf : GoodIn wsX11_map wsX8_worldOf := goodIn_r _ [145, 65, 146, 147, 148, 149, 150, 151, 152, 153, 154, 155, 156, 157, 158, 159, 160, 161, 51, 162, 163, 100, 164, 165, 166, 167, 168, 169, 138, 139, 140, 170, 171, 172, 173, 174, 175, 176, 177, 178, 179, 180, 181, 182, 183, 184, 185, 186, 187, 188, 189, 190, 67, 68, 69, 191, 192, 193, 194, 195, 196, 197, 198, 199, 200, 201, 202, 203, 204, 205, 206, 207, 208, 209, 210, 211, 212, 213, 214, 118, 110, 111, 45, 112, 81, 82, 83, 84, 78, 80, 79, 85, 86, 87, 88, 89, 215, 216, 217, 218, 219, 220, 221, 222, 223, 224, 225, 226, 227, 228, 229, 230, 231, 232, 233, 234, 235, 236, 237, 238, 106, 107, 108, 109, 101, 102, 103, 104, 47, 105, 239, 240, 241, 242, 243, 244, 245, 246, 247, 248, 249, 250, 251, 252, 253, 54, 254, 255, 256, 257, 258, 259, 260, 53, 66, 56, 57, 58, 59, 60, 61, 62, 63, 64, 70, 71, 72, 73, 74, 75, 76, 77, 90, 91, 92, 93, 94, 261, 262, 263, 264, 265, 266, 267, 268, 269, 270, 271, 272, 273, 274, 275, 276, 277, 278, 279, 280, 281, 308, 309, 310, 311, 312, 313, 314, 315, 316, 317, 322, 323, 324, 325, 318, 319, 320, 321, 339, 340, 341, 342, 343, 344, 345, 346, 326, 327, 328, 329, 330, 331, 332, 333, 334, 335, 347, 348, 349, 350, 351, 352, 353, 354, 355, 356] (by decide +kernel) (by decide +kernel)
set_option maxRecDepth 20000 in
theorem gX11_map_X8_worldOf : GoodIn wsX11_map (wsV RX11 142 RX8 yX8_worldOf wsX8_worldOf) := goodIn_app (goodIn_of _ (by decide +kernel)) ggX11_map_X8_worldOf
set_option maxRecDepth 20000 in
theorem ggX11_map_X11_shelve : GoodIn wsX11_map wsX11_shelve := goodIn_r _ [285, 2, 286, 287, 288, 289, 151, 290, 291, 292, 148, 293, 294, 295, 155, 296, 297, 298, 158, 299, 123, 124, 125, 10, 126, 23, 300, 301, 302, 303, 304, 305, 306, 307] (by decide +kernel) (by decide +kernel)
set_option maxRecDepth 20000 in
theorem gX11_map_X11_shelve : GoodIn wsX11_map (wsV RX11 146 RX11 yX11_shelve wsX11_shelve) := goodIn_app (goodIn_of _ (by decide +kernel)) ggX11_map_X11_shelve
theorem dX11_map_0 : decode cX11_map 0 = .ok (.iload_n 1, 1) := by decide +kernel
theorem dX11_map_1 : decode cX11_map 1 = .ok (.invokestatic 136, 3) := by decide +kernel
theorem dX11_map_4 : decode cX11_map 4 = .ok (.ifCond .eq 29, 3) := by decide +kernel
theorem dX11_map_7 : decode cX11_map 7 = .ok (.iload_n 2, 1) := by decide +kernel
theorem dX11_map_8 : decode cX11_map 8 = .ok (.invokestatic 136, 3) := by decide +kernel
theorem dX11_map_11 : decode cX11_map 11 = .ok (.ifCond .eq 22, 3) := by decide +kernel
theorem dX11_map_14 : decode cX11_map 14 = .ok (.iload_n 3, 1) := by decide +kernel
theorem dX11_map_15 : decode cX11_map 15 = .ok (.invokestatic 76, 3) := by decide +kernel
theorem dX11_map_18 : decode cX11_map 18 = .ok (.ifCond .eq 15, 3) := by decide +kernel
theorem dX11_map_21 : decode cX11_map 21 = .ok (.iload 5, 2) := by decide +kernel
theorem dX11_map_23 : decode cX11_map 23 = .ok (.iconst 1, 1) := by decide +kernel
theorem dX11_map_24 : decode cX11_map 24 = .ok (.if_icmp .lt 9, 3) := by decide +kernel
theorem dX11_map_27 : decode cX11_map 27 = .ok (.iload 5, 2) := by decide +kernel
theorem dX11_map_29 : decode cX11_map 29 = .ok (.iconst 4, 1) := by decide +kernel
theorem dX11_map_30 : decode cX11_map 30 = .ok (.if_icmp .le 6, 3) := by decide +kernel
theorem dX11_map_33 : decode cX11_map 33 = .ok (.ldc 80, 2) := by decide +kernel
theorem dX11_map_35 : decode cX11_map 35 = .ok (.ireturn, 1) := by decide +kernel
theorem dX11_map_36 : decode cX11_map 36 = .ok (.aload_n 0, 1) := by decide +kernel
theorem dX11_map_37 : decode cX11_map 37 = .ok (.getfield 17, 3) := by decide +kernel
theorem dX11_map_40 : decode cX11_map 40 = .ok (.iload_n 2, 1) := by decide +kernel
theorem dX11_map_41 : decode cX11_map 41 = .ok (.aaload, 1) := by decide +kernel
theorem dX11_map_42 : decode cX11_map 42 = .ok (.astore 6, 2) := by decide +kernel
theorem dX11_map_44 : decode cX11_map 44 = .ok (.aload_n 0, 1) := by decide +kernel
theorem dX11_map_45 : decode cX11_map 45 = .ok (.aload 6, 2) := by decide +kernel
theorem dX11_map_47 : decode cX11_map 47 = .ok (.iload_n 3, 1) := by decide +kernel
theorem dX11_map_48 : decode cX11_map 48 = .ok (.iload 4, 2) := by decide +kernel
theorem dX11_map_50 : decode cX11_map 50 = .ok (.iload 5, 2) := by decide +kernel
theorem dX11_map_52 : decode cX11_map 52 = .ok (.invokevirtual 157, 3) := by decide +kernel
theorem dX11_map_55 : decode cX11_map 55 = .ok (.istore 7, 2) := by decide +kernel
theorem dX11_map_57 : decode cX11_map 57 = .ok (.iload 7, 2) := by decide +kernel
theorem dX11_map_59 : decode cX11_map 59 = .ok (.ifCond .eq 6, 3) := by decide +kernel
theorem dX11_map_62 : decode cX11_map 62 = .ok (.iload 7, 2) := by decide +kernel
theorem dX11_map_64 : decode cX11_map 64 = .ok (.ireturn, 1) := by decide +kernel
theorem dX11_map_65 : decode cX11_map 65 = .ok (.aload_n 0, 1) := by decide +kernel
theorem dX11_map_66 : decode cX11_map 66 = .ok (.getfield 64, 3) := by decide +kernel
theorem dX11_map_69 : decode cX11_map 69 = .ok (.aload 6, 2) := by decide +kernel
theorem dX11_map_71 : decode cX11_map 71 = .ok (.aload_n 0, 1) := by decide +kernel
theorem dX11_map_72 : decode cX11_map 72 = .ok (.getfield 28, 3) := by decide +kernel
theorem dX11_map_75 : decode cX11_map 75 = .ok (.iload 5, 2) := by decide +kernel
theorem dX11_map_77 : decode cX11_map 77 = .ok (.invokevirtual 161, 3) := by decide +kernel
theorem dX11_map_80 : decode cX11_map 80 = .ok (.ifCond .ne 10, 3) := by decide +kernel
theorem dX11_map_83 : decode cX11_map 83 = .ok (.aload_n 0, 1) := by decide +kernel
theorem dX11_map_84 : decode cX11_map 84 = .ok (.ldc 132, 2) := by decide +kernel
theorem dX11_map_86 : decode cX11_map 86 = .ok (.invokevirtual 88, 3) := by decide +kernel
theorem dX11_map_89 : decode cX11_map 89 = .ok (.ireturn, 1) := by decide +kernel
theorem dX11_map_90 : decode cX11_map 90 = .ok (.aload_n 0, 1) := by decide +kernel
theorem dX11_map_91 : decode cX11_map 91 = .ok (.getfield 64, 3) := by decide +kernel
theorem dX11_map_94 : decode cX11_map 94 = .ok (.getfield 165, 3) := by decide +kernel
theorem dX11_map_97 : decode cX11_map 97 = .ok (.iconst 4, 1) := by decide +kernel
theorem dX11_map_98 : decode cX11_map 98 = .ok (.invokestatic 168, 3) := by decide +kernel
theorem dX11_map_101 : decode cX11_map 101 = .ok (.astore 8, 2) := by decide +kernel
theorem dX11_map_103 : decode cX11_map 103 = .ok (.aload_n 0, 1) := by decide +kernel
theorem dX11_map_104 : decode cX11_map 104 = .ok (.iload_n 1, 1) := by decide +kernel
theorem dX11_map_105 : decode cX11_map 105 = .ok (.aload_n 0, 1) := by decide +kernel
theorem dX11_map_106 : decode cX11_map 106 = .ok (.getfield 64, 3) := by decide +kernel
theorem dX11_map_109 : decode cX11_map 109 = .ok (.aload 8, 2) := by decide +kernel
theorem dX11_map_111 : decode cX11_map 111 = .ok (.aload 6, 2) := by decide +kernel
theorem dX11_map_113 : decode cX11_map 113 = .ok (.getfield 154, 3) := by decide +kernel
theorem dX11_map_116 : decode cX11_map 116 = .ok (.invokevirtual 142, 3) := by decide +kernel
theorem dX11_map_119 : decode cX11_map 119 = .ok (.invokevirtual 146, 3) := by decide +kernel
theorem dX11_map_122 : decode cX11_map 122 = .ok (.ireturn, 1) := by decide +kernel
set_option maxRecDepth 20000 in
theorem ggX11_clear_X11_isPlace : GoodIn wsX11_clear wsX11_isPlace := goodIn_r _ [6] (by decide +kernel) (by decide +kernel)
set_option maxRecDepth 20000 in
theorem gX11_clear_X11_isPlace : GoodIn wsX11_clear (va_wsS RX11 136 yX11_isPlace wsX11_isPlace) := goodIn_app (goodIn_of _ (by decide +kernel)) ggX11_clear_X11_isPlace
theorem dX11_clear_0 : decode cX11_clear 0 = .ok (.iload_n 1, 1) := by decide +kernel
theorem dX11_clear_1 : decode cX11_clear 1 = .ok (.invokestatic 136, 3) := by decide +kernel
theorem dX11_clear_4 : decode cX11_clear 4 = .ok (.ifCond .ne 6, 3) := by decide +kernel
theorem dX11_clear_7 : decode cX11_clear 7 = .ok (.ldc 80, 2) := by decide +kernel
theorem dX11_clear_9 : decode cX11_clear 9 = .ok (.ireturn, 1) := by decide +kernel
theorem dX11_clear_10 : decode cX11_clear 10 = .ok (.aload_n 0, 1) := by decide +kernel
theorem dX11_clear_11 : decode cX11_clear 11 = .ok (.getfield 17, 3) := by decide +kernel
theorem dX11_clear_14 : decode cX11_clear 14 = .ok (.iload_n 1, 1) := by decide +kernel
theorem dX11_clear_15 : decode cX11_clear 15 = .ok (.aaload, 1) := by decide +kernel
theorem dX11_clear_16 : decode cX11_clear 16 = .ok (.ifnonnull 7, 3) := by decide +kernel
theorem dX11_clear_19 : decode cX11_clear 19 = .ok (.iconst 0, 1) := by decide +kernel
theorem dX11_clear_20 : decode cX11_clear 20 = .ok (.goto 4, 3) := by decide +kernel
theorem dX11_clear_23 : decode cX11_clear 23 = .ok (.iconst 1, 1) := by decide +kernel
theorem dX11_clear_24 : decode cX11_clear 24 = .ok (.istore_n 2, 1) := by decide +kernel
theorem dX11_clear_25 : decode cX11_clear 25 = .ok (.aload_n 0, 1) := by decide +kernel
theorem dX11_clear_26 : decode cX11_clear 26 = .ok (.getfield 17, 3) := by decide +kernel
theorem dX11_clear_29 : decode cX11_clear 29 = .ok (.iload_n 1, 1) := by decide +kernel
theorem dX11_clear_30 : decode cX11_clear 30 = .ok (.aconst_null, 1) := by decide +kernel
theorem dX11_clear_31 : decode cX11_clear 31 = .ok (.aastore, 1) := by decide +kernel
theorem dX11_clear_32 : decode cX11_clear 32 = .ok (.iload_n 2, 1) := by decide +kernel
theorem dX11_clear_33 : decode cX11_clear 33 = .ok (.ireturn, 1) := by decide +kernel
set_option maxRecDepth 20000 in
theorem ggX11_told_X11_isPlace : GoodIn wsX11_told wsX11_isPlace := goodIn_r _ [8] (by decide +kernel) (by decide +kernel)
set_option maxRecDepth 20000 in
theorem gX11_told_X11_isPlace : GoodIn wsX11_told (va_wsS RX11 136 yX11_isPlace wsX11_isPlace) := goodIn_app (goodIn_of _ (by decide +kernel)) ggX11_told_X11_isPlace
set_option maxRecDepth 20000 in
theorem ggX11_told_X11_found : GoodIn wsX11_told wsX11_found := goodIn_r _ [12, 13, 14, 206, 207, 208, 209, 210, 211, 212, 213] (by decide +kernel) (by decide +kernel)
set_option maxRecDepth 20000 in
theorem gX11_told_X11_found : GoodIn wsX11_told (wsV RX11 81 RX11 yX11_found wsX11_found) := goodIn_app (goodIn_of _ (by decide +kernel)) ggX11_told_X11_found
set_option maxRecDepth 20000 in
theorem ggX11_told_X11_fine : GoodIn wsX11_told wsX11_fine := goodIn_r _ [18, 13, 206, 207, 208, 209, 210, 211, 212, 213] (by decide +kernel) (by decide +kernel)
set_option maxRecDepth 20000 in
theorem gX11_told_X11_fine : GoodIn wsX11_told (wsV RX11 88 RX11 yX11_fine wsX11_fine) := goodIn_app (goodIn_of _ (by decide +kernel)) ggX11_told_X11_fine
set_option maxRecDepth 20000 in
theorem ggX11_told_X11_tellOf : GoodIn wsX11_told wsX11_tellOf := goodIn_r _ [22, 23, 24, 25, 26, 27, 1, 28, 29, 30, 31, 32, 33, 34, 35, 36, 37, 38, 39, 40, 41, 42, 43, 44, 45, 46, 47, 48, 49, 50, 51, 52, 53, 54, 55, 56, 57, 58, 59, 60, 61, 62, 63, 64, 65, 66, 67, 68, 69, 70, 71, 72, 73, 74, 75, 76, 77, 78, 79, 80, 81, 82, 83, 84, 85, 86, 87, 88, 89, 90, 91, 92, 93, 94, 95, 96, 97, 98, 99, 100, 101, 102, 103, 104, 105, 106, 107, 108, 109, 110, 111, 112, 113, 114, 115, 116, 117, 118, 119, 120, 121, 122, 123, 124, 125, 126, 127, 128, 129, 130, 131, 132, 133, 134, 135, 136, 137, 138, 139, 140, 141, 142, 143, 144, 145, 146, 147, 148, 149, 150, 151, 152, 153, 154, 155, 156, 157, 158, 159, 160, 161, 162, 163, 164, 165, 166, 167, 168, 169, 170, 171, 172, 173, 174, 175, 176, 177, 178, 179, 180, 181, 182, 183, 184, 185, 186, 187, 188, 189, 190, 191, 192, 193, 194, 195, 196, 197, 198, 199, 200, 201, 202, 203, 204, 205, 224, 225, 226, 227, 228, 229, 230, 231, 214, 215, 216, 217, 218, 219, 220, 221, 222, 223, 206, 207, 208, 209, 210, 211, 212, 213, 232, 233, 234, 235, 236, 237, 238, 239, 240, 241, 242, 243, 244, 245, 246, 247, 248, 249, 250, 251, 252, 253, 254, 255, 256, 257, 258, 259, 260, 261, 262, 263, 264, 265, 266, 267, 268, 269, 270, 271] (by decide +kernel) (by decide +kernel)
set_option maxRecDepth 20000 in
theorem gX11_told_X11_tellOf : GoodIn wsX11_told (wsV RX11 179 RX11 yX11_tellOf wsX11_tellOf) := goodIn_app (goodIn_of _ (by decide +kernel)) ggX11_told_X11_tellOf
theorem dX11_told_0 : decode cX11_told 0 = .ok (.iload_n 1, 1) := by decide +kernel
theorem dX11_told_1 : decode cX11_told 1 = .ok (.invokestatic 136, 3) := by decide +kernel
theorem dX11_told_4 : decode cX11_told 4 = .ok (.ifCond .eq 13, 3) := by decide +kernel
theorem dX11_told_7 : decode cX11_told 7 = .ok (.iload_n 2, 1) := by decide +kernel
theorem dX11_told_8 : decode cX11_told 8 = .ok (.ifCond .lt 9, 3) := by decide +kernel
theorem dX11_told_11 : decode cX11_told 11 = .ok (.iload_n 2, 1) := by decide +kernel
theorem dX11_told_12 : decode cX11_told 12 = .ok (.bipush 9, 2) := by decide +kernel
theorem dX11_told_14 : decode cX11_told 14 = .ok (.if_icmp .le 6, 3) := by decide +kernel
theorem dX11_told_17 : decode cX11_told 17 = .ok (.ldc 80, 2) := by decide +kernel
theorem dX11_told_19 : decode cX11_told 19 = .ok (.ireturn, 1) := by decide +kernel
theorem dX11_told_20 : decode cX11_told 20 = .ok (.aload_n 0, 1) := by decide +kernel
theorem dX11_told_21 : decode cX11_told 21 = .ok (.getfield 17, 3) := by decide +kernel
theorem dX11_told_24 : decode cX11_told 24 = .ok (.iload_n 1, 1) := by decide +kernel
theorem dX11_told_25 : decode cX11_told 25 = .ok (.aaload, 1) := by decide +kernel
theorem dX11_told_26 : decode cX11_told 26 = .ok (.astore_n 3, 1) := by decide +kernel
theorem dX11_told_27 : decode cX11_told 27 = .ok (.aload_n 3, 1) := by decide +kernel
theorem dX11_told_28 : decode cX11_told 28 = .ok (.ifnonnull 9, 3) := by decide +kernel
theorem dX11_told_31 : decode cX11_told 31 = .ok (.aload_n 0, 1) := by decide +kernel
theorem dX11_told_32 : decode cX11_told 32 = .ok (.iconst 1, 1) := by decide +kernel
theorem dX11_told_33 : decode cX11_told 33 = .ok (.invokevirtual 81, 3) := by decide +kernel
theorem dX11_told_36 : decode cX11_told 36 = .ok (.ireturn, 1) := by decide +kernel
theorem dX11_told_37 : decode cX11_told 37 = .ok (.iload_n 2, 1) := by decide +kernel
theorem dX11_told_38 : decode cX11_told 38 = .ok (.bipush 9, 2) := by decide +kernel
theorem dX11_told_40 : decode cX11_told 40 = .ok (.if_icmp .ne 34, 3) := by decide +kernel
theorem dX11_told_43 : decode cX11_told 43 = .ok (.aload_n 3, 1) := by decide +kernel
theorem dX11_told_44 : decode cX11_told 44 = .ok (.instanceof 174, 3) := by decide +kernel
theorem dX11_told_47 : decode cX11_told 47 = .ok (.ifCond .eq 21, 3) := by decide +kernel
theorem dX11_told_50 : decode cX11_told 50 = .ok (.aload_n 3, 1) := by decide +kernel
theorem dX11_told_51 : decode cX11_told 51 = .ok (.checkcast 174, 3) := by decide +kernel
theorem dX11_told_54 : decode cX11_told 54 = .ok (.astore 4, 2) := by decide +kernel
theorem dX11_told_56 : decode cX11_told 56 = .ok (.aload_n 0, 1) := by decide +kernel
theorem dX11_told_57 : decode cX11_told 57 = .ok (.aload 4, 2) := by decide +kernel
theorem dX11_told_59 : decode cX11_told 59 = .ok (.getfield 176, 3) := by decide +kernel
theorem dX11_told_62 : decode cX11_told 62 = .ok (.invokevirtual 88, 3) := by decide +kernel
theorem dX11_told_65 : decode cX11_told 65 = .ok (.goto 8, 3) := by decide +kernel
theorem dX11_told_68 : decode cX11_told 68 = .ok (.aload_n 0, 1) := by decide +kernel
theorem dX11_told_69 : decode cX11_told 69 = .ok (.iconst 3, 1) := by decide +kernel
theorem dX11_told_70 : decode cX11_told 70 = .ok (.invokevirtual 81, 3) := by decide +kernel
theorem dX11_told_73 : decode cX11_told 73 = .ok (.ireturn, 1) := by decide +kernel
theorem dX11_told_74 : decode cX11_told 74 = .ok (.aload_n 0, 1) := by decide +kernel
theorem dX11_told_75 : decode cX11_told 75 = .ok (.aload_n 0, 1) := by decide +kernel
theorem dX11_told_76 : decode cX11_told 76 = .ok (.aload_n 3, 1) := by decide +kernel
theorem dX11_told_77 : decode cX11_told 77 = .ok (.iload_n 2, 1) := by decide +kernel
theorem dX11_told_78 : decode cX11_told 78 = .ok (.invokevirtual 179, 3) := by decide +kernel
theorem dX11_told_81 : decode cX11_told 81 = .ok (.invokevirtual 88, 3) := by decide +kernel
theorem dX11_told_84 : decode cX11_told 84 = .ok (.ireturn, 1) := by decide +kernel
set_option maxRecDepth 20000 in
theorem ggX11_acts_X11_isPlace : GoodIn wsX11_acts wsX11_isPlace := goodIn_r _ [8] (by decide +kernel) (by decide +kernel)
set_option maxRecDepth 20000 in
theorem gX11_acts_X11_isPlace : GoodIn wsX11_acts (va_wsS RX11 136 yX11_isPlace wsX11_isPlace) := goodIn_app (goodIn_of _ (by decide +kernel)) ggX11_acts_X11_isPlace
set_option maxRecDepth 20000 in
theorem ggX11_acts_X2_hasPolynomial : GoodIn wsX11_acts wsX2_hasPolynomial := goodIn_r _ [13, 14, 111, 112, 113, 114, 115, 116, 117, 118] (by decide +kernel) (by decide +kernel)
set_option maxRecDepth 20000 in
theorem gX11_acts_X2_hasPolynomial : GoodIn wsX11_acts (wsV RX11 183 RX2 yX2_hasPolynomial wsX2_hasPolynomial) := goodIn_app (goodIn_of _ (by decide +kernel)) ggX11_acts_X2_hasPolynomial
set_option maxRecDepth 20000 in
theorem ggX11_acts_X2_has : GoodIn wsX11_acts wsX2_has := goodIn_r _ [18, 19, 111, 112, 113, 114, 115, 116, 117, 118] (by decide +kernel) (by decide +kernel)
set_option maxRecDepth 20000 in
theorem gX11_acts_X2_has : GoodIn wsX11_acts (wsV RX11 118 RX2 yX2_has wsX2_has) := goodIn_app (goodIn_of _ (by decide +kernel)) ggX11_acts_X2_has
set_option maxRecDepth 20000 in
theorem ggX11_acts_X11_found : GoodIn wsX11_acts wsX11_found := goodIn_r _ [23, 24, 25, 103, 104, 105, 106, 107, 108, 109, 110] (by decide +kernel) (by decide +kernel)
set_option maxRecDepth 20000 in
theorem gX11_acts_X11_found : GoodIn wsX11_acts (wsV RX11 81 RX11 yX11_found wsX11_found) := goodIn_app (goodIn_of _ (by decide +kernel)) ggX11_acts_X11_found
set_option maxRecDepth 20000 in
theorem ggX11_acts_X0_imageOf : GoodIn wsX11_acts wsX0_imageOf := goodIn_r _ [30, 31, 32, 33, 34, 35, 36, 29, 37, 38, 39, 40, 41, 42, 43, 44, 45, 46, 12, 47, 48, 49, 50, 51, 52, 53, 54, 55, 56, 57, 58, 59, 60, 61, 62, 63, 64, 65, 66, 67, 68, 69, 70, 71, 72, 73, 74, 75, 76, 77, 78, 79, 80, 81, 82, 83, 84, 85, 14, 86, 87, 88, 89, 90, 91, 92, 93, 94, 95, 96, 97, 98, 119, 120, 121, 122, 123, 124, 125, 126, 127, 128, 129, 130, 111, 112, 113, 114, 115, 116, 117, 118, 131, 132, 133, 134, 135, 136, 137, 138, 139, 140, 141, 142, 143, 144, 145, 146, 147, 148] (by decide +kernel) (by decide +kernel)
set_option maxRecDepth 20000 in
theorem gX11_acts_X0_imageOf : GoodIn wsX11_acts (wsV RX11 186 RX0 yX0_imageOf wsX0_imageOf) := goodIn_app (goodIn_of _ (by decide +kernel)) ggX11_acts_X0_imageOf
set_option maxRecDepth 20000 in
theorem ggX11_acts_X11_fine : GoodIn wsX11_acts wsX11_fine := goodIn_r _ [102, 24, 103, 104, 105, 106, 107, 108, 109, 110] (by decide +kernel) (by decide +kernel)
set_option maxRecDepth 20000 in
theorem gX11_acts_X11_fine : GoodIn wsX11_acts (wsV RX11 88 RX11 yX11_fine wsX11_fine) := goodIn_app (goodIn_of _ (by decide +kernel)) ggX11_acts_X11_fine
theorem dX11_acts_0 : decode cX11_acts 0 = .ok (.iload_n 1, 1) := by decide +kernel
theorem dX11_acts_1 : decode cX11_acts 1 = .ok (.invokestatic 136, 3) := by decide +kernel
theorem dX11_acts_4 : decode cX11_acts 4 = .ok (.ifCond .eq 25, 3) := by decide +kernel
theorem dX11_acts_7 : decode cX11_acts 7 = .ok (.aload_n 0, 1) := by decide +kernel
theorem dX11_acts_8 : decode cX11_acts 8 = .ok (.getfield 50, 3) := by decide +kernel
theorem dX11_acts_11 : decode cX11_acts 11 = .ok (.iload_n 2, 1) := by decide +kernel
theorem dX11_acts_12 : decode cX11_acts 12 = .ok (.invokevirtual 183, 3) := by decide +kernel
theorem dX11_acts_15 : decode cX11_acts 15 = .ok (.ifCond .eq 14, 3) := by decide +kernel
theorem dX11_acts_18 : decode cX11_acts 18 = .ok (.aload_n 0, 1) := by decide +kernel
theorem dX11_acts_19 : decode cX11_acts 19 = .ok (.getfield 50, 3) := by decide +kernel
theorem dX11_acts_22 : decode cX11_acts 22 = .ok (.iload_n 3, 1) := by decide +kernel
theorem dX11_acts_23 : decode cX11_acts 23 = .ok (.invokevirtual 118, 3) := by decide +kernel
theorem dX11_acts_26 : decode cX11_acts 26 = .ok (.ifCond .ne 6, 3) := by decide +kernel
theorem dX11_acts_29 : decode cX11_acts 29 = .ok (.ldc 80, 2) := by decide +kernel
theorem dX11_acts_31 : decode cX11_acts 31 = .ok (.ireturn, 1) := by decide +kernel
theorem dX11_acts_32 : decode cX11_acts 32 = .ok (.aload_n 0, 1) := by decide +kernel
theorem dX11_acts_33 : decode cX11_acts 33 = .ok (.getfield 17, 3) := by decide +kernel
theorem dX11_acts_36 : decode cX11_acts 36 = .ok (.iload_n 1, 1) := by decide +kernel
theorem dX11_acts_37 : decode cX11_acts 37 = .ok (.aaload, 1) := by decide +kernel
theorem dX11_acts_38 : decode cX11_acts 38 = .ok (.astore 4, 2) := by decide +kernel
theorem dX11_acts_40 : decode cX11_acts 40 = .ok (.aload 4, 2) := by decide +kernel
theorem dX11_acts_42 : decode cX11_acts 42 = .ok (.ifnonnull 11, 3) := by decide +kernel
theorem dX11_acts_45 : decode cX11_acts 45 = .ok (.aload_n 0, 1) := by decide +kernel
theorem dX11_acts_46 : decode cX11_acts 46 = .ok (.iconst 1, 1) := by decide +kernel
theorem dX11_acts_47 : decode cX11_acts 47 = .ok (.invokevirtual 81, 3) := by decide +kernel
theorem dX11_acts_50 : decode cX11_acts 50 = .ok (.goto 18, 3) := by decide +kernel
theorem dX11_acts_53 : decode cX11_acts 53 = .ok (.aload_n 0, 1) := by decide +kernel
theorem dX11_acts_54 : decode cX11_acts 54 = .ok (.aload_n 0, 1) := by decide +kernel
theorem dX11_acts_55 : decode cX11_acts 55 = .ok (.getfield 71, 3) := by decide +kernel
theorem dX11_acts_58 : decode cX11_acts 58 = .ok (.aload 4, 2) := by decide +kernel
theorem dX11_acts_60 : decode cX11_acts 60 = .ok (.iload_n 2, 1) := by decide +kernel
theorem dX11_acts_61 : decode cX11_acts 61 = .ok (.iload_n 3, 1) := by decide +kernel
theorem dX11_acts_62 : decode cX11_acts 62 = .ok (.invokevirtual 186, 3) := by decide +kernel
theorem dX11_acts_65 : decode cX11_acts 65 = .ok (.invokevirtual 88, 3) := by decide +kernel
theorem dX11_acts_68 : decode cX11_acts 68 = .ok (.ireturn, 1) := by decide +kernel
set_option maxRecDepth 20000 in
theorem ggX11_sum_X11_isPlace : GoodIn wsX11_sum wsX11_isPlace := goodIn_r _ [8] (by decide +kernel) (by decide +kernel)
set_option maxRecDepth 20000 in
theorem gX11_sum_X11_isPlace : GoodIn wsX11_sum (va_wsS RX11 136 yX11_isPlace wsX11_isPlace) := goodIn_app (goodIn_of _ (by decide +kernel)) ggX11_sum_X11_isPlace
set_option maxRecDepth 20000 in
theorem ggX11_sum_X2_hasPolynomial : GoodIn wsX11_sum wsX2_hasPolynomial := goodIn_r _ [13, 14, 104, 105, 106, 107, 108, 109, 110, 111] (by decide +kernel) (by decide +kernel)
set_option maxRecDepth 20000 in
theorem gX11_sum_X2_hasPolynomial : GoodIn wsX11_sum (wsV RX11 183 RX2 yX2_hasPolynomial wsX2_hasPolynomial) := goodIn_app (goodIn_of _ (by decide +kernel)) ggX11_sum_X2_hasPolynomial
set_option maxRecDepth 20000 in
theorem ggX11_sum_X11_found : GoodIn wsX11_sum wsX11_found := goodIn_r _ [18, 19, 20, 96, 97, 98, 99, 100, 101, 102, 103] (by decide +kernel) (by decide +kernel)
set_option maxRecDepth 20000 in
theorem gX11_sum_X11_found : GoodIn wsX11_sum (wsV RX11 81 RX11 yX11_found wsX11_found) := goodIn_app (goodIn_of _ (by decide +kernel)) ggX11_sum_X11_found
set_option maxRecDepth 20000 in
theorem ggX11_sum_X8_lengthOf : GoodIn wsX11_sum wsX8_lengthOf := goodIn_r _ [25, 26, 27, 28, 29, 30, 12, 31, 14, 112, 113, 114, 115, 116, 117, 118, 119, 120, 121, 122, 123, 124, 125, 126, 127, 128, 129, 130, 131, 132, 133, 134, 135, 136, 137, 138, 139, 104, 105, 106, 107, 108, 109, 110, 111] (by decide +kernel) (by decide +kernel)
set_option maxRecDepth 20000 in
theorem gX11_sum_X8_lengthOf : GoodIn wsX11_sum (wsV RX11 190 RX8 yX8_lengthOf wsX8_lengthOf) := goodIn_app (goodIn_of _ (by decide +kernel)) ggX11_sum_X8_lengthOf
set_option maxRecDepth 20000 in
theorem ggX11_sum_X11_fine : GoodIn wsX11_sum wsX11_fine := goodIn_r _ [35, 19, 96, 97, 98, 99, 100, 101, 102, 103] (by decide +kernel) (by decide +kernel)
set_option maxRecDepth 20000 in
theorem gX11_sum_X11_fine : GoodIn wsX11_sum (wsV RX11 88 RX11 yX11_fine wsX11_fine) := goodIn_app (goodIn_of _ (by decide +kernel)) ggX11_sum_X11_fine
set_option maxRecDepth 20000 in
theorem ggX11_sum_X8_numberOf : GoodIn wsX11_sum wsX8_numberOf := goodIn_r _ [39, 26, 28, 29, 30, 12, 31, 14, 40, 41, 42, 24, 43, 44, 45, 46, 27, 47, 48, 49, 50, 51, 52, 53, 54, 55, 56, 57, 58, 59, 60, 61, 62, 63, 64, 65, 66, 67, 68, 69, 70, 71, 72, 73, 74, 75, 76, 77, 78, 79, 80, 81, 82, 83, 84, 85, 86, 87, 88, 89, 90, 91, 92, 93, 94, 95, 112, 113, 114, 115, 116, 117, 118, 119, 120, 121, 104, 105, 106, 107, 108, 109, 110, 111, 122, 123, 124, 125, 126, 127, 128, 129, 130, 131, 132, 133, 134, 135, 136, 137, 138, 139] (by decide +kernel) (by decide +kernel)
set_option maxRecDepth 20000 in
theorem gX11_sum_X8_numberOf : GoodIn wsX11_sum (wsV RX11 193 RX8 yX8_numberOf wsX8_numberOf) := goodIn_app (goodIn_of _ (by decide +kernel)) ggX11_sum_X8_numberOf
theorem dX11_sum_0 : decode cX11_sum 0 = .ok (.iload_n 1, 1) := by decide +kernel
theorem dX11_sum_1 : decode cX11_sum 1 = .ok (.invokestatic 136, 3) := by decide +kernel
theorem dX11_sum_4 : decode cX11_sum 4 = .ok (.ifCond .eq 19, 3) := by decide +kernel
theorem dX11_sum_7 : decode cX11_sum 7 = .ok (.aload_n 0, 1) := by decide +kernel
theorem dX11_sum_8 : decode cX11_sum 8 = .ok (.getfield 50, 3) := by decide +kernel
theorem dX11_sum_11 : decode cX11_sum 11 = .ok (.iload_n 2, 1) := by decide +kernel
theorem dX11_sum_12 : decode cX11_sum 12 = .ok (.invokevirtual 183, 3) := by decide +kernel
theorem dX11_sum_15 : decode cX11_sum 15 = .ok (.ifCond .eq 8, 3) := by decide +kernel
theorem dX11_sum_18 : decode cX11_sum 18 = .ok (.iload_n 3, 1) := by decide +kernel
theorem dX11_sum_19 : decode cX11_sum 19 = .ok (.iconst (-1), 1) := by decide +kernel
theorem dX11_sum_20 : decode cX11_sum 20 = .ok (.if_icmp .ge 6, 3) := by decide +kernel
theorem dX11_sum_23 : decode cX11_sum 23 = .ok (.ldc 80, 2) := by decide +kernel
theorem dX11_sum_25 : decode cX11_sum 25 = .ok (.ireturn, 1) := by decide +kernel
theorem dX11_sum_26 : decode cX11_sum 26 = .ok (.aload_n 0, 1) := by decide +kernel
theorem dX11_sum_27 : decode cX11_sum 27 = .ok (.getfield 17, 3) := by decide +kernel
theorem dX11_sum_30 : decode cX11_sum 30 = .ok (.iload_n 1, 1) := by decide +kernel
theorem dX11_sum_31 : decode cX11_sum 31 = .ok (.aaload, 1) := by decide +kernel
theorem dX11_sum_32 : decode cX11_sum 32 = .ok (.astore 4, 2) := by decide +kernel
theorem dX11_sum_34 : decode cX11_sum 34 = .ok (.aload 4, 2) := by decide +kernel
theorem dX11_sum_36 : decode cX11_sum 36 = .ok (.ifnonnull 9, 3) := by decide +kernel
theorem dX11_sum_39 : decode cX11_sum 39 = .ok (.aload_n 0, 1) := by decide +kernel
theorem dX11_sum_40 : decode cX11_sum 40 = .ok (.iconst 1, 1) := by decide +kernel
theorem dX11_sum_41 : decode cX11_sum 41 = .ok (.invokevirtual 81, 3) := by decide +kernel
theorem dX11_sum_44 : decode cX11_sum 44 = .ok (.ireturn, 1) := by decide +kernel
theorem dX11_sum_45 : decode cX11_sum 45 = .ok (.aload_n 0, 1) := by decide +kernel
theorem dX11_sum_46 : decode cX11_sum 46 = .ok (.getfield 64, 3) := by decide +kernel
theorem dX11_sum_49 : decode cX11_sum 49 = .ok (.aload 4, 2) := by decide +kernel
theorem dX11_sum_51 : decode cX11_sum 51 = .ok (.iload_n 2, 1) := by decide +kernel
theorem dX11_sum_52 : decode cX11_sum 52 = .ok (.invokevirtual 190, 3) := by decide +kernel
theorem dX11_sum_55 : decode cX11_sum 55 = .ok (.istore 5, 2) := by decide +kernel
theorem dX11_sum_57 : decode cX11_sum 57 = .ok (.iload_n 3, 1) := by decide +kernel
theorem dX11_sum_58 : decode cX11_sum 58 = .ok (.iconst (-1), 1) := by decide +kernel
theorem dX11_sum_59 : decode cX11_sum 59 = .ok (.if_icmp .ne 10, 3) := by decide +kernel
theorem dX11_sum_62 : decode cX11_sum 62 = .ok (.aload_n 0, 1) := by decide +kernel
theorem dX11_sum_63 : decode cX11_sum 63 = .ok (.iload 5, 2) := by decide +kernel
theorem dX11_sum_65 : decode cX11_sum 65 = .ok (.invokevirtual 88, 3) := by decide +kernel
theorem dX11_sum_68 : decode cX11_sum 68 = .ok (.ireturn, 1) := by decide +kernel
theorem dX11_sum_69 : decode cX11_sum 69 = .ok (.aload_n 0, 1) := by decide +kernel
theorem dX11_sum_70 : decode cX11_sum 70 = .ok (.iload_n 3, 1) := by decide +kernel
theorem dX11_sum_71 : decode cX11_sum 71 = .ok (.iload 5, 2) := by decide +kernel
theorem dX11_sum_73 : decode cX11_sum 73 = .ok (.if_icmp .le 7, 3) := by decide +kernel
theorem dX11_sum_76 : decode cX11_sum 76 = .ok (.iconst 0, 1) := by decide +kernel
theorem dX11_sum_77 : decode cX11_sum 77 = .ok (.goto 14, 3) := by decide +kernel
theorem dX11_sum_80 : decode cX11_sum 80 = .ok (.aload_n 0, 1) := by decide +kernel
theorem dX11_sum_81 : decode cX11_sum 81 = .ok (.getfield 64, 3) := by decide +kernel
theorem dX11_sum_84 : decode cX11_sum 84 = .ok (.aload 4, 2) := by decide +kernel
theorem dX11_sum_86 : decode cX11_sum 86 = .ok (.iload_n 2, 1) := by decide +kernel
theorem dX11_sum_87 : decode cX11_sum 87 = .ok (.iload_n 3, 1) := by decide +kernel
theorem dX11_sum_88 : decode cX11_sum 88 = .ok (.invokevirtual 193, 3) := by decide +kernel
theorem dX11_sum_91 : decode cX11_sum 91 = .ok (.invokevirtual 88, 3) := by decide +kernel
theorem dX11_sum_94 : decode cX11_sum 94 = .ok (.ireturn, 1) := by decide +kernel
set_option maxRecDepth 20000 in
theorem ggX11_order_X11_isPlace : GoodIn wsX11_order wsX11_isPlace := goodIn_r _ [8] (by decide +kernel) (by decide +kernel)
set_option maxRecDepth 20000 in
theorem gX11_order_X11_isPlace : GoodIn wsX11_order (va_wsS RX11 136 yX11_isPlace wsX11_isPlace) := goodIn_app (goodIn_of _ (by decide +kernel)) ggX11_order_X11_isPlace
set_option maxRecDepth 20000 in
theorem ggX11_order_X2_has : GoodIn wsX11_order wsX2_has := goodIn_r _ [13, 14, 148, 149, 150, 151, 152, 153, 154, 155] (by decide +kernel) (by decide +kernel)
set_option maxRecDepth 20000 in
theorem gX11_order_X2_has : GoodIn wsX11_order (wsV RX11 118 RX2 yX2_has wsX2_has) := goodIn_app (goodIn_of _ (by decide +kernel)) ggX11_order_X2_has
set_option maxRecDepth 20000 in
theorem ggX11_order_X11_found : GoodIn wsX11_order wsX11_found := goodIn_r _ [18, 19, 20, 140, 141, 142, 143, 144, 145, 146, 147] (by decide +kernel) (by decide +kernel)
set_option maxRecDepth 20000 in
theorem gX11_order_X11_found : GoodIn wsX11_order (wsV RX11 81 RX11 yX11_found wsX11_found) := goodIn_app (goodIn_of _ (by decide +kernel)) ggX11_order_X11_found
set_option maxRecDepth 20000 in
theorem ggX11_order_X0_orderOf : GoodIn wsX11_order wsX0_orderOf := goodIn_r _ [25, 26, 27, 28, 29, 30, 31, 32, 24, 33, 34, 35, 36, 37, 38, 39, 40, 41, 12, 42, 43, 44, 45, 46, 47, 48, 49, 50, 51, 52, 53, 54, 55, 56, 57, 58, 59, 60, 61, 62, 63, 64, 65, 66, 67, 68, 69, 70, 71, 72, 73, 74, 75, 76, 77, 78, 79, 80, 81, 82, 83, 84, 85, 86, 87, 88, 89, 90, 91, 92, 93, 94, 95, 96, 97, 98, 99, 100, 101, 102, 103, 104, 105, 106, 107, 108, 109, 110, 111, 112, 113, 114, 115, 116, 117, 118, 119, 120, 121, 122, 123, 124, 125, 126, 127, 128, 129, 130, 131, 132, 133, 134, 135, 156, 157, 158, 159, 160, 161, 162, 163, 164, 165, 166, 167, 148, 149, 150, 151, 152, 153, 154, 155, 168, 169, 170, 171, 172, 173, 174, 175, 176, 177, 178, 179, 180, 181, 182, 183, 184, 185, 186, 187, 188, 189, 190, 191, 192, 193, 194, 195] (by decide +kernel) (by decide +kernel)
set_option maxRecDepth 20000 in
theorem gX11_order_X0_orderOf : GoodIn wsX11_order (wsV RX11 196 RX0 yX0_orderOf wsX0_orderOf) := goodIn_app (goodIn_of _ (by decide +kernel)) ggX11_order_X0_orderOf
set_option maxRecDepth 20000 in
theorem ggX11_order_X11_fine : GoodIn wsX11_order wsX11_fine := goodIn_r _ [139, 19, 140, 141, 142, 143, 144, 145, 146, 147] (by decide +kernel) (by decide +kernel)
set_option maxRecDepth 20000 in
theorem gX11_order_X11_fine : GoodIn wsX11_order (wsV RX11 88 RX11 yX11_fine wsX11_fine) := goodIn_app (goodIn_of _ (by decide +kernel)) ggX11_order_X11_fine
theorem dX11_order_0 : decode cX11_order 0 = .ok (.iload_n 1, 1) := by decide +kernel
theorem dX11_order_1 : decode cX11_order 1 = .ok (.invokestatic 136, 3) := by decide +kernel
theorem dX11_order_4 : decode cX11_order 4 = .ok (.ifCond .eq 14, 3) := by decide +kernel
theorem dX11_order_7 : decode cX11_order 7 = .ok (.aload_n 0, 1) := by decide +kernel
theorem dX11_order_8 : decode cX11_order 8 = .ok (.getfield 50, 3) := by decide +kernel
theorem dX11_order_11 : decode cX11_order 11 = .ok (.iload_n 2, 1) := by decide +kernel
theorem dX11_order_12 : decode cX11_order 12 = .ok (.invokevirtual 118, 3) := by decide +kernel
theorem dX11_order_15 : decode cX11_order 15 = .ok (.ifCond .ne 6, 3) := by decide +kernel
theorem dX11_order_18 : decode cX11_order 18 = .ok (.ldc 80, 2) := by decide +kernel
theorem dX11_order_20 : decode cX11_order 20 = .ok (.ireturn, 1) := by decide +kernel
theorem dX11_order_21 : decode cX11_order 21 = .ok (.aload_n 0, 1) := by decide +kernel
theorem dX11_order_22 : decode cX11_order 22 = .ok (.getfield 17, 3) := by decide +kernel
theorem dX11_order_25 : decode cX11_order 25 = .ok (.iload_n 1, 1) := by decide +kernel
theorem dX11_order_26 : decode cX11_order 26 = .ok (.aaload, 1) := by decide +kernel
theorem dX11_order_27 : decode cX11_order 27 = .ok (.astore_n 3, 1) := by decide +kernel
theorem dX11_order_28 : decode cX11_order 28 = .ok (.aload_n 3, 1) := by decide +kernel
theorem dX11_order_29 : decode cX11_order 29 = .ok (.ifnonnull 11, 3) := by decide +kernel
theorem dX11_order_32 : decode cX11_order 32 = .ok (.aload_n 0, 1) := by decide +kernel
theorem dX11_order_33 : decode cX11_order 33 = .ok (.iconst 1, 1) := by decide +kernel
theorem dX11_order_34 : decode cX11_order 34 = .ok (.invokevirtual 81, 3) := by decide +kernel
theorem dX11_order_37 : decode cX11_order 37 = .ok (.goto 16, 3) := by decide +kernel
theorem dX11_order_40 : decode cX11_order 40 = .ok (.aload_n 0, 1) := by decide +kernel
theorem dX11_order_41 : decode cX11_order 41 = .ok (.aload_n 0, 1) := by decide +kernel
theorem dX11_order_42 : decode cX11_order 42 = .ok (.getfield 71, 3) := by decide +kernel
theorem dX11_order_45 : decode cX11_order 45 = .ok (.aload_n 3, 1) := by decide +kernel
theorem dX11_order_46 : decode cX11_order 46 = .ok (.iload_n 2, 1) := by decide +kernel
theorem dX11_order_47 : decode cX11_order 47 = .ok (.invokevirtual 196, 3) := by decide +kernel
theorem dX11_order_50 : decode cX11_order 50 = .ok (.invokevirtual 88, 3) := by decide +kernel
theorem dX11_order_53 : decode cX11_order 53 = .ok (.ireturn, 1) := by decide +kernel
set_option maxRecDepth 20000 in
theorem ggX11_kernel_X11_isPlace : GoodIn wsX11_kernel wsX11_isPlace := goodIn_r _ [9] (by decide +kernel) (by decide +kernel)
set_option maxRecDepth 20000 in
theorem gX11_kernel_X11_isPlace : GoodIn wsX11_kernel (va_wsS RX11 136 yX11_isPlace wsX11_isPlace) := goodIn_app (goodIn_of _ (by decide +kernel)) ggX11_kernel_X11_isPlace
set_option maxRecDepth 20000 in
theorem ggX11_kernel_X2_hasPolynomial : GoodIn wsX11_kernel wsX2_hasPolynomial := goodIn_r _ [14, 15, 166, 167, 168, 169, 170, 171, 172, 173] (by decide +kernel) (by decide +kernel)
set_option maxRecDepth 20000 in
theorem gX11_kernel_X2_hasPolynomial : GoodIn wsX11_kernel (wsV RX11 183 RX2 yX2_hasPolynomial wsX2_hasPolynomial) := goodIn_app (goodIn_of _ (by decide +kernel)) ggX11_kernel_X2_hasPolynomial
set_option maxRecDepth 20000 in
theorem ggX11_kernel_X11_found : GoodIn wsX11_kernel wsX11_found := goodIn_r _ [19, 20, 21, 158, 159, 160, 161, 162, 163, 164, 165] (by decide +kernel) (by decide +kernel)
set_option maxRecDepth 20000 in
theorem gX11_kernel_X11_found : GoodIn wsX11_kernel (wsV RX11 81 RX11 yX11_found wsX11_found) := goodIn_app (goodIn_of _ (by decide +kernel)) ggX11_kernel_X11_found
set_option maxRecDepth 20000 in
theorem ggX11_kernel_X0_kernelSize : GoodIn wsX11_kernel wsX0_kernelSize := goodIn_r _ [26, 27, 28, 29, 30, 31, 32, 33, 34, 35, 36, 37, 25, 38, 39, 40, 41, 42, 43, 44, 45, 13, 46, 47, 48, 49, 50, 51, 52, 53, 54, 55, 56, 57, 58, 59, 60, 61, 62, 63, 64, 65, 66, 67, 68, 69, 70, 71, 72, 73, 74, 75, 76, 77, 78, 79, 80, 81, 82, 83, 84, 85, 86, 87, 88, 89, 90, 91, 92, 93, 94, 95, 96, 15, 97, 98, 99, 100, 101, 102, 103, 104, 105, 106, 107, 108, 109, 110, 111, 112, 113, 114, 115, 116, 117, 118, 119, 120, 121, 122, 123, 124, 125, 126, 127, 128, 129, 130, 131, 132, 133, 134, 135, 136, 137, 138, 139, 140, 141, 142, 143, 144, 145, 146, 147, 174, 175, 176, 177, 178, 179, 180, 181, 182, 183, 184, 185, 166, 167, 168, 169, 170, 171, 172, 173, 186, 187, 188, 189, 190, 191, 192, 193, 194, 195, 196, 197, 198, 199, 200, 201, 202, 203, 204, 205, 206, 207, 208, 209, 210, 211, 212, 213] (by decide +kernel) (by decide +kernel)
set_option maxRecDepth 20000 in
theorem gX11_kernel_X0_kernelSize : GoodIn wsX11_kernel (wsV RX11 199 RX0 yX0_kernelSize wsX0_kernelSize) := goodIn_app (goodIn_of _ (by decide +kernel)) ggX11_kernel_X0_kernelSize
set_option maxRecDepth 20000 in
theorem ggX11_kernel_X11_fine : GoodIn wsX11_kernel wsX11_fine := goodIn_r _ [151, 20, 158, 159, 160, 161, 162, 163, 164, 165] (by decide +kernel) (by decide +kernel)
set_option maxRecDepth 20000 in
theorem gX11_kernel_X11_fine : GoodIn wsX11_kernel (wsV RX11 88 RX11 yX11_fine wsX11_fine) := goodIn_app (goodIn_of _ (by decide +kernel)) ggX11_kernel_X11_fine
set_option maxRecDepth 20000 in
theorem ggX11_kernel_X0_kernelItem : GoodIn wsX11_kernel wsX0_kernelItem := goodIn_r _ [155, 29, 30, 34, 102, 103, 104, 13, 105, 15, 53, 156, 48, 49, 50, 51, 52, 157, 59, 60, 61, 62, 174, 175, 176, 177, 178, 179, 180, 181, 182, 183, 184, 185, 166, 167, 168, 169, 170, 171, 172, 173] (by decide +kernel) (by decide +kernel)
set_option maxRecDepth 20000 in
theorem gX11_kernel_X0_kernelItem : GoodIn wsX11_kernel (wsV RX11 202 RX0 yX0_kernelItem wsX0_kernelItem) := goodIn_app (goodIn_of _ (by decide +kernel)) ggX11_kernel_X0_kernelItem
theorem dX11_kernel_0 : decode cX11_kernel 0 = .ok (.iload_n 1, 1) := by decide +kernel
theorem dX11_kernel_1 : decode cX11_kernel 1 = .ok (.invokestatic 136, 3) := by decide +kernel
theorem dX11_kernel_4 : decode cX11_kernel 4 = .ok (.ifCond .eq 14, 3) := by decide +kernel
theorem dX11_kernel_7 : decode cX11_kernel 7 = .ok (.aload_n 0, 1) := by decide +kernel
theorem dX11_kernel_8 : decode cX11_kernel 8 = .ok (.getfield 50, 3) := by decide +kernel
theorem dX11_kernel_11 : decode cX11_kernel 11 = .ok (.iload_n 2, 1) := by decide +kernel
theorem dX11_kernel_12 : decode cX11_kernel 12 = .ok (.invokevirtual 183, 3) := by decide +kernel
theorem dX11_kernel_15 : decode cX11_kernel 15 = .ok (.ifCond .ne 6, 3) := by decide +kernel
theorem dX11_kernel_18 : decode cX11_kernel 18 = .ok (.ldc 80, 2) := by decide +kernel
theorem dX11_kernel_20 : decode cX11_kernel 20 = .ok (.ireturn, 1) := by decide +kernel
theorem dX11_kernel_21 : decode cX11_kernel 21 = .ok (.aload_n 0, 1) := by decide +kernel
theorem dX11_kernel_22 : decode cX11_kernel 22 = .ok (.getfield 17, 3) := by decide +kernel
theorem dX11_kernel_25 : decode cX11_kernel 25 = .ok (.iload_n 1, 1) := by decide +kernel
theorem dX11_kernel_26 : decode cX11_kernel 26 = .ok (.aaload, 1) := by decide +kernel
theorem dX11_kernel_27 : decode cX11_kernel 27 = .ok (.astore 4, 2) := by decide +kernel
theorem dX11_kernel_29 : decode cX11_kernel 29 = .ok (.aload 4, 2) := by decide +kernel
theorem dX11_kernel_31 : decode cX11_kernel 31 = .ok (.ifnonnull 9, 3) := by decide +kernel
theorem dX11_kernel_34 : decode cX11_kernel 34 = .ok (.aload_n 0, 1) := by decide +kernel
theorem dX11_kernel_35 : decode cX11_kernel 35 = .ok (.iconst 1, 1) := by decide +kernel
theorem dX11_kernel_36 : decode cX11_kernel 36 = .ok (.invokevirtual 81, 3) := by decide +kernel
theorem dX11_kernel_39 : decode cX11_kernel 39 = .ok (.ireturn, 1) := by decide +kernel
theorem dX11_kernel_40 : decode cX11_kernel 40 = .ok (.aload_n 0, 1) := by decide +kernel
theorem dX11_kernel_41 : decode cX11_kernel 41 = .ok (.getfield 71, 3) := by decide +kernel
theorem dX11_kernel_44 : decode cX11_kernel 44 = .ok (.aload 4, 2) := by decide +kernel
theorem dX11_kernel_46 : decode cX11_kernel 46 = .ok (.iload_n 2, 1) := by decide +kernel
theorem dX11_kernel_47 : decode cX11_kernel 47 = .ok (.invokevirtual 199, 3) := by decide +kernel
theorem dX11_kernel_50 : decode cX11_kernel 50 = .ok (.istore 5, 2) := by decide +kernel
theorem dX11_kernel_52 : decode cX11_kernel 52 = .ok (.iload_n 3, 1) := by decide +kernel
theorem dX11_kernel_53 : decode cX11_kernel 53 = .ok (.ldc 132, 2) := by decide +kernel
theorem dX11_kernel_55 : decode cX11_kernel 55 = .ok (.if_icmp .ne 10, 3) := by decide +kernel
theorem dX11_kernel_58 : decode cX11_kernel 58 = .ok (.aload_n 0, 1) := by decide +kernel
theorem dX11_kernel_59 : decode cX11_kernel 59 = .ok (.iload 5, 2) := by decide +kernel
theorem dX11_kernel_61 : decode cX11_kernel 61 = .ok (.invokevirtual 88, 3) := by decide +kernel
theorem dX11_kernel_64 : decode cX11_kernel 64 = .ok (.ireturn, 1) := by decide +kernel
theorem dX11_kernel_65 : decode cX11_kernel 65 = .ok (.aload_n 0, 1) := by decide +kernel
theorem dX11_kernel_66 : decode cX11_kernel 66 = .ok (.iload_n 3, 1) := by decide +kernel
theorem dX11_kernel_67 : decode cX11_kernel 67 = .ok (.ifCond .lt 9, 3) := by decide +kernel
theorem dX11_kernel_70 : decode cX11_kernel 70 = .ok (.iload_n 3, 1) := by decide +kernel
theorem dX11_kernel_71 : decode cX11_kernel 71 = .ok (.iload 5, 2) := by decide +kernel
theorem dX11_kernel_73 : decode cX11_kernel 73 = .ok (.if_icmp .lt 8, 3) := by decide +kernel
theorem dX11_kernel_76 : decode cX11_kernel 76 = .ok (.ldc 132, 2) := by decide +kernel
theorem dX11_kernel_78 : decode cX11_kernel 78 = .ok (.goto 11, 3) := by decide +kernel
theorem dX11_kernel_81 : decode cX11_kernel 81 = .ok (.aload_n 0, 1) := by decide +kernel
theorem dX11_kernel_82 : decode cX11_kernel 82 = .ok (.getfield 71, 3) := by decide +kernel
theorem dX11_kernel_85 : decode cX11_kernel 85 = .ok (.iload_n 3, 1) := by decide +kernel
theorem dX11_kernel_86 : decode cX11_kernel 86 = .ok (.invokevirtual 202, 3) := by decide +kernel
theorem dX11_kernel_89 : decode cX11_kernel 89 = .ok (.invokevirtual 88, 3) := by decide +kernel
theorem dX11_kernel_92 : decode cX11_kernel 92 = .ok (.ireturn, 1) := by decide +kernel
set_option maxRecDepth 20000 in
theorem ggX11_back_X11_isPlace : GoodIn wsX11_back wsX11_isPlace := goodIn_r _ [10] (by decide +kernel) (by decide +kernel)
set_option maxRecDepth 20000 in
theorem gX11_back_X11_isPlace : GoodIn wsX11_back (va_wsS RX11 136 yX11_isPlace wsX11_isPlace) := goodIn_app (goodIn_of _ (by decide +kernel)) ggX11_back_X11_isPlace
set_option maxRecDepth 20000 in
theorem ggX11_back_X11_isRow : GoodIn wsX11_back wsX11_isRow := goodIn_r _ [13] (by decide +kernel) (by decide +kernel)
set_option maxRecDepth 20000 in
theorem gX11_back_X11_isRow : GoodIn wsX11_back (va_wsS RX11 76 yX11_isRow wsX11_isRow) := goodIn_app (goodIn_of _ (by decide +kernel)) ggX11_back_X11_isRow
set_option maxRecDepth 20000 in
theorem ggX11_back_X11_takeMap : GoodIn wsX11_back wsX11_takeMap := goodIn_r _ [17, 4, 1, 18, 19, 20, 9, 21, 22, 23, 24, 25, 26, 27, 28, 29, 30, 31, 32, 33, 34, 35, 36, 37, 38, 39, 40, 41, 42, 43, 44, 45, 46, 213, 214, 215, 216, 217, 218, 219, 220, 231, 232, 233, 234, 235, 236, 237, 238, 239, 240, 241] (by decide +kernel) (by decide +kernel)
set_option maxRecDepth 20000 in
theorem gX11_back_X11_takeMap : GoodIn wsX11_back (wsV RX11 157 RX11 yX11_takeMap wsX11_takeMap) := goodIn_app (goodIn_of _ (by decide +kernel)) ggX11_back_X11_takeMap
set_option maxRecDepth 20000 in
theorem ggX11_back_X8_wayBack : GoodIn wsX11_back wsX8_wayBack := goodIn_r _ [51, 52, 53, 54, 55, 56, 57, 58, 59, 50, 60, 61, 62, 63, 64, 65, 66, 67, 68, 44, 69, 46, 70, 71, 72, 73, 74, 75, 76, 77, 78, 79, 80, 81, 82, 83, 84, 85, 86, 87, 88, 89, 90, 91, 92, 93, 94, 95, 96, 97, 98, 99, 100, 101, 102, 103, 104, 105, 106, 107, 108, 109, 110, 111, 112, 113, 114, 115, 116, 117, 118, 119, 120, 121, 122, 123, 124, 125, 126, 127, 128, 129, 130, 131, 132, 133, 134, 135, 136, 137, 138, 139, 140, 141, 142, 143, 144, 145, 146, 147, 148, 149, 150, 151, 152, 153, 154, 155, 156, 157, 158, 159, 160, 161, 162, 163, 164, 165, 166, 167, 168, 169, 170, 171, 172, 173, 174, 175, 176, 177, 178, 179, 180, 181, 182, 183, 184, 185, 186, 187, 188, 189, 190, 191, 192, 193, 194, 195, 196, 197, 198, 199, 200, 201, 202, 203, 204, 205, 206, 207, 221, 222, 223, 224, 225, 226, 227, 228, 229, 230, 234, 235, 236, 237, 238, 239, 240, 241, 242, 243, 244, 245, 246, 247, 248, 249, 250, 251, 252, 253, 254, 255, 256, 257, 258, 259, 260, 261, 262, 263, 264, 265, 266, 267, 268, 269] (by decide +kernel) (by decide +kernel)
set_option maxRecDepth 20000 in
theorem gX11_back_X8_wayBack : GoodIn wsX11_back (wsV RX11 205 RX8 yX8_wayBack wsX8_wayBack) := goodIn_app (goodIn_of _ (by decide +kernel)) ggX11_back_X8_wayBack
set_option maxRecDepth 20000 in
theorem ggX11_back_X11_fine : GoodIn wsX11_back wsX11_fine := goodIn_r _ [211, 22, 213, 214, 215, 216, 217, 218, 219, 220] (by decide +kernel) (by decide +kernel)
set_option maxRecDepth 20000 in
theorem gX11_back_X11_fine : GoodIn wsX11_back (wsV RX11 88 RX11 yX11_fine wsX11_fine) := goodIn_app (goodIn_of _ (by decide +kernel)) ggX11_back_X11_fine
set_option maxRecDepth 20000 in
theorem ggX11_back_X8_lengthOf : GoodIn wsX11_back wsX8_lengthOf := goodIn_r _ [114, 54, 115, 116, 117, 118, 44, 119, 120, 221, 222, 223, 224, 225, 226, 227, 228, 229, 230, 252, 253, 254, 255, 256, 257, 258, 259, 260, 261, 262, 263, 264, 265, 266, 267, 268, 269, 234, 235, 236, 237, 238, 239, 240, 241] (by decide +kernel) (by decide +kernel)
set_option maxRecDepth 20000 in
theorem gX11_back_X8_lengthOf : GoodIn wsX11_back (wsV RX11 190 RX8 yX8_lengthOf wsX8_lengthOf) := goodIn_app (goodIn_of _ (by decide +kernel)) ggX11_back_X8_lengthOf
theorem dX11_back_0 : decode cX11_back 0 = .ok (.iload_n 1, 1) := by decide +kernel
theorem dX11_back_1 : decode cX11_back 1 = .ok (.invokestatic 136, 3) := by decide +kernel
theorem dX11_back_4 : decode cX11_back 4 = .ok (.ifCond .eq 29, 3) := by decide +kernel
theorem dX11_back_7 : decode cX11_back 7 = .ok (.iload_n 2, 1) := by decide +kernel
theorem dX11_back_8 : decode cX11_back 8 = .ok (.invokestatic 76, 3) := by decide +kernel
theorem dX11_back_11 : decode cX11_back 11 = .ok (.ifCond .eq 22, 3) := by decide +kernel
theorem dX11_back_14 : decode cX11_back 14 = .ok (.iload 4, 2) := by decide +kernel
theorem dX11_back_16 : decode cX11_back 16 = .ok (.iconst 1, 1) := by decide +kernel
theorem dX11_back_17 : decode cX11_back 17 = .ok (.if_icmp .lt 16, 3) := by decide +kernel
theorem dX11_back_20 : decode cX11_back 20 = .ok (.iload 4, 2) := by decide +kernel
theorem dX11_back_22 : decode cX11_back 22 = .ok (.iconst 4, 1) := by decide +kernel
theorem dX11_back_23 : decode cX11_back 23 = .ok (.if_icmp .gt 10, 3) := by decide +kernel
theorem dX11_back_26 : decode cX11_back 26 = .ok (.iload 5, 2) := by decide +kernel
theorem dX11_back_28 : decode cX11_back 28 = .ok (.bipush (-2), 2) := by decide +kernel
theorem dX11_back_30 : decode cX11_back 30 = .ok (.if_icmp .ge 6, 3) := by decide +kernel
theorem dX11_back_33 : decode cX11_back 33 = .ok (.ldc 80, 2) := by decide +kernel
theorem dX11_back_35 : decode cX11_back 35 = .ok (.ireturn, 1) := by decide +kernel
theorem dX11_back_36 : decode cX11_back 36 = .ok (.aload_n 0, 1) := by decide +kernel
theorem dX11_back_37 : decode cX11_back 37 = .ok (.getfield 17, 3) := by decide +kernel
theorem dX11_back_40 : decode cX11_back 40 = .ok (.iload_n 1, 1) := by decide +kernel
theorem dX11_back_41 : decode cX11_back 41 = .ok (.aaload, 1) := by decide +kernel
theorem dX11_back_42 : decode cX11_back 42 = .ok (.astore 6, 2) := by decide +kernel
theorem dX11_back_44 : decode cX11_back 44 = .ok (.aload_n 0, 1) := by decide +kernel
theorem dX11_back_45 : decode cX11_back 45 = .ok (.aload 6, 2) := by decide +kernel
theorem dX11_back_47 : decode cX11_back 47 = .ok (.iload_n 2, 1) := by decide +kernel
theorem dX11_back_48 : decode cX11_back 48 = .ok (.iload_n 3, 1) := by decide +kernel
theorem dX11_back_49 : decode cX11_back 49 = .ok (.iload 4, 2) := by decide +kernel
theorem dX11_back_51 : decode cX11_back 51 = .ok (.invokevirtual 157, 3) := by decide +kernel
theorem dX11_back_54 : decode cX11_back 54 = .ok (.istore 7, 2) := by decide +kernel
theorem dX11_back_56 : decode cX11_back 56 = .ok (.iload 7, 2) := by decide +kernel
theorem dX11_back_58 : decode cX11_back 58 = .ok (.ifCond .eq 6, 3) := by decide +kernel
theorem dX11_back_61 : decode cX11_back 61 = .ok (.iload 7, 2) := by decide +kernel
theorem dX11_back_63 : decode cX11_back 63 = .ok (.ireturn, 1) := by decide +kernel
theorem dX11_back_64 : decode cX11_back 64 = .ok (.aload_n 0, 1) := by decide +kernel
theorem dX11_back_65 : decode cX11_back 65 = .ok (.getfield 64, 3) := by decide +kernel
theorem dX11_back_68 : decode cX11_back 68 = .ok (.aload 6, 2) := by decide +kernel
theorem dX11_back_70 : decode cX11_back 70 = .ok (.aload_n 0, 1) := by decide +kernel
theorem dX11_back_71 : decode cX11_back 71 = .ok (.getfield 28, 3) := by decide +kernel
theorem dX11_back_74 : decode cX11_back 74 = .ok (.iload 4, 2) := by decide +kernel
theorem dX11_back_76 : decode cX11_back 76 = .ok (.invokevirtual 205, 3) := by decide +kernel
theorem dX11_back_79 : decode cX11_back 79 = .ok (.istore 8, 2) := by decide +kernel
theorem dX11_back_81 : decode cX11_back 81 = .ok (.iload 8, 2) := by decide +kernel
theorem dX11_back_83 : decode cX11_back 83 = .ok (.ifCond .ne 10, 3) := by decide +kernel
theorem dX11_back_86 : decode cX11_back 86 = .ok (.aload_n 0, 1) := by decide +kernel
theorem dX11_back_87 : decode cX11_back 87 = .ok (.ldc 132, 2) := by decide +kernel
theorem dX11_back_89 : decode cX11_back 89 = .ok (.invokevirtual 88, 3) := by decide +kernel
theorem dX11_back_92 : decode cX11_back 92 = .ok (.ireturn, 1) := by decide +kernel
theorem dX11_back_93 : decode cX11_back 93 = .ok (.iload 5, 2) := by decide +kernel
theorem dX11_back_95 : decode cX11_back 95 = .ok (.bipush (-2), 2) := by decide +kernel
theorem dX11_back_97 : decode cX11_back 97 = .ok (.if_icmp .ne 10, 3) := by decide +kernel
theorem dX11_back_100 : decode cX11_back 100 = .ok (.aload_n 0, 1) := by decide +kernel
theorem dX11_back_101 : decode cX11_back 101 = .ok (.iload 8, 2) := by decide +kernel
theorem dX11_back_103 : decode cX11_back 103 = .ok (.invokevirtual 88, 3) := by decide +kernel
theorem dX11_back_106 : decode cX11_back 106 = .ok (.ireturn, 1) := by decide +kernel
theorem dX11_back_107 : decode cX11_back 107 = .ok (.aload_n 0, 1) := by decide +kernel
theorem dX11_back_108 : decode cX11_back 108 = .ok (.getfield 64, 3) := by decide +kernel
theorem dX11_back_111 : decode cX11_back 111 = .ok (.aload 6, 2) := by decide +kernel
theorem dX11_back_113 : decode cX11_back 113 = .ok (.iload 8, 2) := by decide +kernel
theorem dX11_back_115 : decode cX11_back 115 = .ok (.invokevirtual 190, 3) := by decide +kernel
theorem dX11_back_118 : decode cX11_back 118 = .ok (.iload 4, 2) := by decide +kernel
theorem dX11_back_120 : decode cX11_back 120 = .ok (.isub, 1) := by decide +kernel
theorem dX11_back_121 : decode cX11_back 121 = .ok (.istore 9, 2) := by decide +kernel
theorem dX11_back_123 : decode cX11_back 123 = .ok (.iload 5, 2) := by decide +kernel
theorem dX11_back_125 : decode cX11_back 125 = .ok (.iconst (-1), 1) := by decide +kernel
theorem dX11_back_126 : decode cX11_back 126 = .ok (.if_icmp .ne 10, 3) := by decide +kernel
theorem dX11_back_129 : decode cX11_back 129 = .ok (.aload_n 0, 1) := by decide +kernel
theorem dX11_back_130 : decode cX11_back 130 = .ok (.iload 9, 2) := by decide +kernel
theorem dX11_back_132 : decode cX11_back 132 = .ok (.invokevirtual 88, 3) := by decide +kernel
theorem dX11_back_135 : decode cX11_back 135 = .ok (.ireturn, 1) := by decide +kernel
theorem dX11_back_136 : decode cX11_back 136 = .ok (.aload_n 0, 1) := by decide +kernel
theorem dX11_back_137 : decode cX11_back 137 = .ok (.iload 5, 2) := by decide +kernel
theorem dX11_back_139 : decode cX11_back 139 = .ok (.iload 9, 2) := by decide +kernel
theorem dX11_back_141 : decode cX11_back 141 = .ok (.if_icmp .le 7, 3) := by decide +kernel
theorem dX11_back_144 : decode cX11_back 144 = .ok (.iconst 0, 1) := by decide +kernel
theorem dX11_back_145 : decode cX11_back 145 = .ok (.goto 13, 3) := by decide +kernel
theorem dX11_back_148 : decode cX11_back 148 = .ok (.aload_n 0, 1) := by decide +kernel
theorem dX11_back_149 : decode cX11_back 149 = .ok (.getfield 64, 3) := by decide +kernel
theorem dX11_back_152 : decode cX11_back 152 = .ok (.getfield 165, 3) := by decide +kernel
theorem dX11_back_155 : decode cX11_back 155 = .ok (.iload 5, 2) := by decide +kernel
theorem dX11_back_157 : decode cX11_back 157 = .ok (.iaload, 1) := by decide +kernel
theorem dX11_back_158 : decode cX11_back 158 = .ok (.invokevirtual 88, 3) := by decide +kernel
theorem dX11_back_161 : decode cX11_back 161 = .ok (.ireturn, 1) := by decide +kernel
set_option maxRecDepth 20000 in
theorem ggX11_alike_X11_isPlace : GoodIn wsX11_alike wsX11_isPlace := goodIn_r _ [7] (by decide +kernel) (by decide +kernel)
set_option maxRecDepth 20000 in
theorem gX11_alike_X11_isPlace : GoodIn wsX11_alike (va_wsS RX11 136 yX11_isPlace wsX11_isPlace) := goodIn_app (goodIn_of _ (by decide +kernel)) ggX11_alike_X11_isPlace
set_option maxRecDepth 20000 in
theorem ggX11_alike_X11_found : GoodIn wsX11_alike wsX11_found := goodIn_r _ [11, 12, 13, 124, 125, 126, 127, 128, 129, 130, 131] (by decide +kernel) (by decide +kernel)
set_option maxRecDepth 20000 in
theorem gX11_alike_X11_found : GoodIn wsX11_alike (wsV RX11 81 RX11 yX11_found wsX11_found) := goodIn_app (goodIn_of _ (by decide +kernel)) ggX11_alike_X11_found
set_option maxRecDepth 20000 in
theorem ggX11_alike_X8_turnsFromTo : GoodIn wsX11_alike wsX8_turnsFromTo := goodIn_r _ [18, 19, 20, 21, 22, 23, 24, 25, 26, 27, 28, 29, 30, 31, 32, 33, 34, 35, 36, 37, 38, 17, 39, 40, 41, 42, 43, 44, 45, 46, 47, 48, 49, 50, 51, 52, 53, 54, 55, 56, 57, 58, 59, 60, 61, 62, 63, 64, 65, 66, 67, 68, 69, 70, 71, 72, 73, 74, 75, 76, 77, 78, 79, 80, 81, 82, 83, 84, 85, 86, 87, 88, 89, 90, 91, 92, 93, 94, 95, 96, 97, 98, 99, 100, 101, 102, 103, 104, 105, 106, 107, 108, 109, 110, 111, 112, 113, 114, 115, 116, 117, 118, 119, 132, 133, 134, 135, 136, 137, 138, 139, 140, 141, 142, 143, 144, 145, 146, 147, 148, 149, 150, 151, 152, 153, 154, 155, 156, 157, 158, 159, 160, 161, 162, 163, 164, 165, 166, 167, 168, 169, 170, 171, 172, 173, 174, 175, 176, 177] (by decide +kernel) (by decide +kernel)
set_option maxRecDepth 20000 in
theorem gX11_alike_X8_turnsFromTo : GoodIn wsX11_alike (wsV RX11 209 RX8 yX8_turnsFromTo wsX8_turnsFromTo) := goodIn_app (goodIn_of _ (by decide +kernel)) ggX11_alike_X8_turnsFromTo
set_option maxRecDepth 20000 in
theorem ggX11_alike_X11_fine : GoodIn wsX11_alike wsX11_fine := goodIn_r _ [123, 12, 124, 125, 126, 127, 128, 129, 130, 131] (by decide +kernel) (by decide +kernel)
set_option maxRecDepth 20000 in
theorem gX11_alike_X11_fine : GoodIn wsX11_alike (wsV RX11 88 RX11 yX11_fine wsX11_fine) := goodIn_app (goodIn_of _ (by decide +kernel)) ggX11_alike_X11_fine
theorem dX11_alike_0 : decode cX11_alike 0 = .ok (.iload_n 1, 1) := by decide +kernel
theorem dX11_alike_1 : decode cX11_alike 1 = .ok (.invokestatic 136, 3) := by decide +kernel
theorem dX11_alike_4 : decode cX11_alike 4 = .ok (.ifCond .eq 10, 3) := by decide +kernel
theorem dX11_alike_7 : decode cX11_alike 7 = .ok (.iload_n 2, 1) := by decide +kernel
theorem dX11_alike_8 : decode cX11_alike 8 = .ok (.invokestatic 136, 3) := by decide +kernel
theorem dX11_alike_11 : decode cX11_alike 11 = .ok (.ifCond .ne 6, 3) := by decide +kernel
theorem dX11_alike_14 : decode cX11_alike 14 = .ok (.ldc 80, 2) := by decide +kernel
theorem dX11_alike_16 : decode cX11_alike 16 = .ok (.ireturn, 1) := by decide +kernel
theorem dX11_alike_17 : decode cX11_alike 17 = .ok (.aload_n 0, 1) := by decide +kernel
theorem dX11_alike_18 : decode cX11_alike 18 = .ok (.getfield 17, 3) := by decide +kernel
theorem dX11_alike_21 : decode cX11_alike 21 = .ok (.iload_n 1, 1) := by decide +kernel
theorem dX11_alike_22 : decode cX11_alike 22 = .ok (.aaload, 1) := by decide +kernel
theorem dX11_alike_23 : decode cX11_alike 23 = .ok (.astore_n 3, 1) := by decide +kernel
theorem dX11_alike_24 : decode cX11_alike 24 = .ok (.aload_n 0, 1) := by decide +kernel
theorem dX11_alike_25 : decode cX11_alike 25 = .ok (.getfield 17, 3) := by decide +kernel
theorem dX11_alike_28 : decode cX11_alike 28 = .ok (.iload_n 2, 1) := by decide +kernel
theorem dX11_alike_29 : decode cX11_alike 29 = .ok (.aaload, 1) := by decide +kernel
theorem dX11_alike_30 : decode cX11_alike 30 = .ok (.astore 4, 2) := by decide +kernel
theorem dX11_alike_32 : decode cX11_alike 32 = .ok (.aload_n 3, 1) := by decide +kernel
theorem dX11_alike_33 : decode cX11_alike 33 = .ok (.ifnull 8, 3) := by decide +kernel
theorem dX11_alike_36 : decode cX11_alike 36 = .ok (.aload 4, 2) := by decide +kernel
theorem dX11_alike_38 : decode cX11_alike 38 = .ok (.ifnonnull 9, 3) := by decide +kernel
theorem dX11_alike_41 : decode cX11_alike 41 = .ok (.aload_n 0, 1) := by decide +kernel
theorem dX11_alike_42 : decode cX11_alike 42 = .ok (.iconst 1, 1) := by decide +kernel
theorem dX11_alike_43 : decode cX11_alike 43 = .ok (.invokevirtual 81, 3) := by decide +kernel
theorem dX11_alike_46 : decode cX11_alike 46 = .ok (.ireturn, 1) := by decide +kernel
theorem dX11_alike_47 : decode cX11_alike 47 = .ok (.aload_n 0, 1) := by decide +kernel
theorem dX11_alike_48 : decode cX11_alike 48 = .ok (.aload_n 0, 1) := by decide +kernel
theorem dX11_alike_49 : decode cX11_alike 49 = .ok (.getfield 64, 3) := by decide +kernel
theorem dX11_alike_52 : decode cX11_alike 52 = .ok (.aload_n 3, 1) := by decide +kernel
theorem dX11_alike_53 : decode cX11_alike 53 = .ok (.aload 4, 2) := by decide +kernel
theorem dX11_alike_55 : decode cX11_alike 55 = .ok (.invokevirtual 209, 3) := by decide +kernel
theorem dX11_alike_58 : decode cX11_alike 58 = .ok (.ifCond .le 7, 3) := by decide +kernel
theorem dX11_alike_61 : decode cX11_alike 61 = .ok (.iconst 1, 1) := by decide +kernel
theorem dX11_alike_62 : decode cX11_alike 62 = .ok (.goto 4, 3) := by decide +kernel
theorem dX11_alike_65 : decode cX11_alike 65 = .ok (.iconst 0, 1) := by decide +kernel
theorem dX11_alike_66 : decode cX11_alike 66 = .ok (.invokevirtual 88, 3) := by decide +kernel
theorem dX11_alike_69 : decode cX11_alike 69 = .ok (.ireturn, 1) := by decide +kernel
set_option maxRecDepth 20000 in
theorem ggX11_stays_X11_isPlace : GoodIn wsX11_stays wsX11_isPlace := goodIn_r _ [7] (by decide +kernel) (by decide +kernel)
set_option maxRecDepth 20000 in
theorem gX11_stays_X11_isPlace : GoodIn wsX11_stays (va_wsS RX11 136 yX11_isPlace wsX11_isPlace) := goodIn_app (goodIn_of _ (by decide +kernel)) ggX11_stays_X11_isPlace
set_option maxRecDepth 20000 in
theorem ggX11_stays_X11_found : GoodIn wsX11_stays wsX11_found := goodIn_r _ [11, 12, 13, 124, 125, 126, 127, 128, 129, 130, 131] (by decide +kernel) (by decide +kernel)
set_option maxRecDepth 20000 in
theorem gX11_stays_X11_found : GoodIn wsX11_stays (wsV RX11 81 RX11 yX11_found wsX11_found) := goodIn_app (goodIn_of _ (by decide +kernel)) ggX11_stays_X11_found
set_option maxRecDepth 20000 in
theorem ggX11_stays_X8_turnsFromTo : GoodIn wsX11_stays wsX8_turnsFromTo := goodIn_r _ [18, 19, 20, 21, 22, 23, 24, 25, 26, 27, 28, 29, 30, 31, 32, 33, 34, 35, 36, 37, 38, 17, 39, 40, 41, 42, 43, 44, 45, 46, 47, 48, 49, 50, 51, 52, 53, 54, 55, 56, 57, 58, 59, 60, 61, 62, 63, 64, 65, 66, 67, 68, 69, 70, 71, 72, 73, 74, 75, 76, 77, 78, 79, 80, 81, 82, 83, 84, 85, 86, 87, 88, 89, 90, 91, 92, 93, 94, 95, 96, 97, 98, 99, 100, 101, 102, 103, 104, 105, 106, 107, 108, 109, 110, 111, 112, 113, 114, 115, 116, 117, 118, 119, 132, 133, 134, 135, 136, 137, 138, 139, 140, 141, 142, 143, 144, 145, 146, 147, 148, 149, 150, 151, 152, 153, 154, 155, 156, 157, 158, 159, 160, 161, 162, 163, 164, 165, 166, 167, 168, 169, 170, 171, 172, 173, 174, 175, 176, 177] (by decide +kernel) (by decide +kernel)
set_option maxRecDepth 20000 in
theorem gX11_stays_X8_turnsFromTo : GoodIn wsX11_stays (wsV RX11 209 RX8 yX8_turnsFromTo wsX8_turnsFromTo) := goodIn_app (goodIn_of _ (by decide +kernel)) ggX11_stays_X8_turnsFromTo
set_option maxRecDepth 20000 in
theorem ggX11_stays_X11_fine : GoodIn wsX11_stays wsX11_fine := goodIn_r _ [123, 12, 124, 125, 126, 127, 128, 129, 130, 131] (by decide +kernel) (by decide +kernel)
set_option maxRecDepth 20000 in
theorem gX11_stays_X11_fine : GoodIn wsX11_stays (wsV RX11 88 RX11 yX11_fine wsX11_fine) := goodIn_app (goodIn_of _ (by decide +kernel)) ggX11_stays_X11_fine
theorem dX11_stays_0 : decode cX11_stays 0 = .ok (.iload_n 1, 1) := by decide +kernel
theorem dX11_stays_1 : decode cX11_stays 1 = .ok (.invokestatic 136, 3) := by decide +kernel
theorem dX11_stays_4 : decode cX11_stays 4 = .ok (.ifCond .ne 6, 3) := by decide +kernel
theorem dX11_stays_7 : decode cX11_stays 7 = .ok (.ldc 80, 2) := by decide +kernel
theorem dX11_stays_9 : decode cX11_stays 9 = .ok (.ireturn, 1) := by decide +kernel
theorem dX11_stays_10 : decode cX11_stays 10 = .ok (.aload_n 0, 1) := by decide +kernel
theorem dX11_stays_11 : decode cX11_stays 11 = .ok (.getfield 17, 3) := by decide +kernel
theorem dX11_stays_14 : decode cX11_stays 14 = .ok (.iload_n 1, 1) := by decide +kernel
theorem dX11_stays_15 : decode cX11_stays 15 = .ok (.aaload, 1) := by decide +kernel
theorem dX11_stays_16 : decode cX11_stays 16 = .ok (.astore_n 2, 1) := by decide +kernel
theorem dX11_stays_17 : decode cX11_stays 17 = .ok (.aload_n 2, 1) := by decide +kernel
theorem dX11_stays_18 : decode cX11_stays 18 = .ok (.ifnonnull 11, 3) := by decide +kernel
theorem dX11_stays_21 : decode cX11_stays 21 = .ok (.aload_n 0, 1) := by decide +kernel
theorem dX11_stays_22 : decode cX11_stays 22 = .ok (.iconst 1, 1) := by decide +kernel
theorem dX11_stays_23 : decode cX11_stays 23 = .ok (.invokevirtual 81, 3) := by decide +kernel
theorem dX11_stays_26 : decode cX11_stays 26 = .ok (.goto 16, 3) := by decide +kernel
theorem dX11_stays_29 : decode cX11_stays 29 = .ok (.aload_n 0, 1) := by decide +kernel
theorem dX11_stays_30 : decode cX11_stays 30 = .ok (.aload_n 0, 1) := by decide +kernel
theorem dX11_stays_31 : decode cX11_stays 31 = .ok (.getfield 64, 3) := by decide +kernel
theorem dX11_stays_34 : decode cX11_stays 34 = .ok (.aload_n 2, 1) := by decide +kernel
theorem dX11_stays_35 : decode cX11_stays 35 = .ok (.aload_n 2, 1) := by decide +kernel
theorem dX11_stays_36 : decode cX11_stays 36 = .ok (.invokevirtual 209, 3) := by decide +kernel
theorem dX11_stays_39 : decode cX11_stays 39 = .ok (.invokevirtual 88, 3) := by decide +kernel
theorem dX11_stays_42 : decode cX11_stays 42 = .ok (.ireturn, 1) := by decide +kernel
set_option maxRecDepth 20000 in
theorem ggX11_kind_X11_isPlace : GoodIn wsX11_kind wsX11_isPlace := goodIn_r _ [6] (by decide +kernel) (by decide +kernel)
set_option maxRecDepth 20000 in
theorem gX11_kind_X11_isPlace : GoodIn wsX11_kind (va_wsS RX11 136 yX11_isPlace wsX11_isPlace) := goodIn_app (goodIn_of _ (by decide +kernel)) ggX11_kind_X11_isPlace
set_option maxRecDepth 20000 in
theorem ggX11_kind_X11_found : GoodIn wsX11_kind wsX11_found := goodIn_r _ [10, 11, 12, 35, 36, 37, 38, 39, 40, 41, 42] (by decide +kernel) (by decide +kernel)
set_option maxRecDepth 20000 in
theorem gX11_kind_X11_found : GoodIn wsX11_kind (wsV RX11 81 RX11 yX11_found wsX11_found) := goodIn_app (goodIn_of _ (by decide +kernel)) ggX11_kind_X11_found
set_option maxRecDepth 20000 in
theorem ggX11_kind_X1_kindTold : GoodIn wsX11_kind wsX1_kindTold := goodIn_r _ [18] (by decide +kernel) (by decide +kernel)
set_option maxRecDepth 20000 in
theorem gX11_kind_X1_kindTold_u213X1 : GoodIn wsX11_kind (va_wsU RX11 213 RX1 "TimesByPowers$World" ⟨"TimesByPowers$World", "kindTold", "()I"⟩ yX1_kindTold wsX1_kindTold) := goodIn_app (goodIn_of _ (by decide +kernel)) ggX11_kind_X1_kindTold
set_option maxRecDepth 20000 in
theorem ggX11_kind_X3_kindTold : GoodIn wsX11_kind wsX3_kindTold := goodIn_r _ [22] (by decide +kernel) (by decide +kernel)
set_option maxRecDepth 20000 in
theorem gX11_kind_X3_kindTold_u213X3 : GoodIn wsX11_kind (va_wsU RX11 213 RX3 "TimesByPowers$World" ⟨"TimesByPowers$World", "kindTold", "()I"⟩ yX3_kindTold wsX3_kindTold) := goodIn_app (goodIn_of _ (by decide +kernel)) ggX11_kind_X3_kindTold
set_option maxRecDepth 20000 in
theorem ggX11_kind_X4_kindTold : GoodIn wsX11_kind wsX4_kindTold := goodIn_r _ [26] (by decide +kernel) (by decide +kernel)
set_option maxRecDepth 20000 in
theorem gX11_kind_X4_kindTold_u213X4 : GoodIn wsX11_kind (va_wsU RX11 213 RX4 "TimesByPowers$World" ⟨"TimesByPowers$World", "kindTold", "()I"⟩ yX4_kindTold wsX4_kindTold) := goodIn_app (goodIn_of _ (by decide +kernel)) ggX11_kind_X4_kindTold
set_option maxRecDepth 20000 in
theorem ggX11_kind_X7_kindTold : GoodIn wsX11_kind wsX7_kindTold := goodIn_r _ [30] (by decide +kernel) (by decide +kernel)
set_option maxRecDepth 20000 in
theorem gX11_kind_X7_kindTold_u213X7 : GoodIn wsX11_kind (va_wsU RX11 213 RX7 "TimesByPowers$World" ⟨"TimesByPowers$World", "kindTold", "()I"⟩ yX7_kindTold wsX7_kindTold) := goodIn_app (goodIn_of _ (by decide +kernel)) ggX11_kind_X7_kindTold
set_option maxRecDepth 20000 in
theorem ggX11_kind_X11_fine : GoodIn wsX11_kind wsX11_fine := goodIn_r _ [34, 11, 35, 36, 37, 38, 39, 40, 41, 42] (by decide +kernel) (by decide +kernel)
set_option maxRecDepth 20000 in
theorem gX11_kind_X11_fine : GoodIn wsX11_kind (wsV RX11 88 RX11 yX11_fine wsX11_fine) := goodIn_app (goodIn_of _ (by decide +kernel)) ggX11_kind_X11_fine
theorem dX11_kind_0 : decode cX11_kind 0 = .ok (.iload_n 1, 1) := by decide +kernel
theorem dX11_kind_1 : decode cX11_kind 1 = .ok (.invokestatic 136, 3) := by decide +kernel
theorem dX11_kind_4 : decode cX11_kind 4 = .ok (.ifCond .ne 6, 3) := by decide +kernel
theorem dX11_kind_7 : decode cX11_kind 7 = .ok (.ldc 80, 2) := by decide +kernel
theorem dX11_kind_9 : decode cX11_kind 9 = .ok (.ireturn, 1) := by decide +kernel
theorem dX11_kind_10 : decode cX11_kind 10 = .ok (.aload_n 0, 1) := by decide +kernel
theorem dX11_kind_11 : decode cX11_kind 11 = .ok (.getfield 17, 3) := by decide +kernel
theorem dX11_kind_14 : decode cX11_kind 14 = .ok (.iload_n 1, 1) := by decide +kernel
theorem dX11_kind_15 : decode cX11_kind 15 = .ok (.aaload, 1) := by decide +kernel
theorem dX11_kind_16 : decode cX11_kind 16 = .ok (.astore_n 2, 1) := by decide +kernel
theorem dX11_kind_17 : decode cX11_kind 17 = .ok (.aload_n 2, 1) := by decide +kernel
theorem dX11_kind_18 : decode cX11_kind 18 = .ok (.ifnonnull 11, 3) := by decide +kernel
theorem dX11_kind_21 : decode cX11_kind 21 = .ok (.aload_n 0, 1) := by decide +kernel
theorem dX11_kind_22 : decode cX11_kind 22 = .ok (.iconst 1, 1) := by decide +kernel
theorem dX11_kind_23 : decode cX11_kind 23 = .ok (.invokevirtual 81, 3) := by decide +kernel
theorem dX11_kind_26 : decode cX11_kind 26 = .ok (.goto 11, 3) := by decide +kernel
theorem dX11_kind_29 : decode cX11_kind 29 = .ok (.aload_n 0, 1) := by decide +kernel
theorem dX11_kind_30 : decode cX11_kind 30 = .ok (.aload_n 2, 1) := by decide +kernel
theorem dX11_kind_31 : decode cX11_kind 31 = .ok (.invokevirtual 213, 3) := by decide +kernel
theorem dX11_kind_34 : decode cX11_kind 34 = .ok (.invokevirtual 88, 3) := by decide +kernel
theorem dX11_kind_37 : decode cX11_kind 37 = .ok (.ireturn, 1) := by decide +kernel
set_option maxRecDepth 20000 in
theorem ggX11_is_X11_isPlace : GoodIn wsX11_is wsX11_isPlace := goodIn_r _ [6] (by decide +kernel) (by decide +kernel)
set_option maxRecDepth 20000 in
theorem gX11_is_X11_isPlace : GoodIn wsX11_is (va_wsS RX11 136 yX11_isPlace wsX11_isPlace) := goodIn_app (goodIn_of _ (by decide +kernel)) ggX11_is_X11_isPlace
set_option maxRecDepth 20000 in
theorem ggX11_is_X11_isKind : GoodIn wsX11_is wsX11_isKind := goodIn_r _ [9] (by decide +kernel) (by decide +kernel)
set_option maxRecDepth 20000 in
theorem gX11_is_X11_isKind : GoodIn wsX11_is (va_wsS RX11 216 yX11_isKind wsX11_isKind) := goodIn_app (goodIn_of _ (by decide +kernel)) ggX11_is_X11_isKind
set_option maxRecDepth 20000 in
theorem ggX11_is_X11_isOf : GoodIn wsX11_is wsX11_isOf := goodIn_r _ [12, 13, 14, 15, 16] (by decide +kernel) (by decide +kernel)
set_option maxRecDepth 20000 in
theorem gX11_is_X11_isOf : GoodIn wsX11_is (va_wsS RX11 219 yX11_isOf wsX11_isOf) := goodIn_app (goodIn_of _ (by decide +kernel)) ggX11_is_X11_isOf
theorem dX11_is_0 : decode cX11_is 0 = .ok (.iload_n 1, 1) := by decide +kernel
theorem dX11_is_1 : decode cX11_is 1 = .ok (.invokestatic 136, 3) := by decide +kernel
theorem dX11_is_4 : decode cX11_is 4 = .ok (.ifCond .eq 10, 3) := by decide +kernel
theorem dX11_is_7 : decode cX11_is 7 = .ok (.iload_n 2, 1) := by decide +kernel
theorem dX11_is_8 : decode cX11_is 8 = .ok (.invokestatic 216, 3) := by decide +kernel
theorem dX11_is_11 : decode cX11_is 11 = .ok (.ifCond .ne 6, 3) := by decide +kernel
theorem dX11_is_14 : decode cX11_is 14 = .ok (.ldc 80, 2) := by decide +kernel
theorem dX11_is_16 : decode cX11_is 16 = .ok (.ireturn, 1) := by decide +kernel
theorem dX11_is_17 : decode cX11_is 17 = .ok (.aload_n 0, 1) := by decide +kernel
theorem dX11_is_18 : decode cX11_is 18 = .ok (.getfield 17, 3) := by decide +kernel
theorem dX11_is_21 : decode cX11_is 21 = .ok (.iload_n 1, 1) := by decide +kernel
theorem dX11_is_22 : decode cX11_is 22 = .ok (.aaload, 1) := by decide +kernel
theorem dX11_is_23 : decode cX11_is 23 = .ok (.iload_n 2, 1) := by decide +kernel
theorem dX11_is_24 : decode cX11_is 24 = .ok (.invokestatic 219, 3) := by decide +kernel
theorem dX11_is_27 : decode cX11_is 27 = .ok (.ifCond .eq 7, 3) := by decide +kernel
theorem dX11_is_30 : decode cX11_is 30 = .ok (.iconst 1, 1) := by decide +kernel
theorem dX11_is_31 : decode cX11_is 31 = .ok (.goto 4, 3) := by decide +kernel
theorem dX11_is_34 : decode cX11_is 34 = .ok (.iconst 0, 1) := by decide +kernel
theorem dX11_is_35 : decode cX11_is 35 = .ok (.ireturn, 1) := by decide +kernel
set_option maxRecDepth 20000 in
theorem ggX11_as_X11_isPlace : GoodIn wsX11_as wsX11_isPlace := goodIn_r _ [7] (by decide +kernel) (by decide +kernel)
set_option maxRecDepth 20000 in
theorem gX11_as_X11_isPlace : GoodIn wsX11_as (va_wsS RX11 136 yX11_isPlace wsX11_isPlace) := goodIn_app (goodIn_of _ (by decide +kernel)) ggX11_as_X11_isPlace
set_option maxRecDepth 20000 in
theorem ggX11_as_X11_isKind : GoodIn wsX11_as wsX11_isKind := goodIn_r _ [10] (by decide +kernel) (by decide +kernel)
set_option maxRecDepth 20000 in
theorem gX11_as_X11_isKind : GoodIn wsX11_as (va_wsS RX11 216 yX11_isKind wsX11_isKind) := goodIn_app (goodIn_of _ (by decide +kernel)) ggX11_as_X11_isKind
set_option maxRecDepth 20000 in
theorem ggX11_as_X11_found : GoodIn wsX11_as wsX11_found := goodIn_r _ [14, 15, 16, 28, 29, 30, 31, 32, 33, 34, 35] (by decide +kernel) (by decide +kernel)
set_option maxRecDepth 20000 in
theorem gX11_as_X11_found : GoodIn wsX11_as (wsV RX11 81 RX11 yX11_found wsX11_found) := goodIn_app (goodIn_of _ (by decide +kernel)) ggX11_as_X11_found
set_option maxRecDepth 20000 in
theorem ggX11_as_X11_isOf : GoodIn wsX11_as wsX11_isOf := goodIn_r _ [19, 20, 21, 22, 23] (by decide +kernel) (by decide +kernel)
set_option maxRecDepth 20000 in
theorem gX11_as_X11_isOf : GoodIn wsX11_as (va_wsS RX11 219 yX11_isOf wsX11_isOf) := goodIn_app (goodIn_of _ (by decide +kernel)) ggX11_as_X11_isOf
set_option maxRecDepth 20000 in
theorem ggX11_as_X11_fine : GoodIn wsX11_as wsX11_fine := goodIn_r _ [27, 15, 28, 29, 30, 31, 32, 33, 34, 35] (by decide +kernel) (by decide +kernel)
set_option maxRecDepth 20000 in
theorem gX11_as_X11_fine : GoodIn wsX11_as (wsV RX11 88 RX11 yX11_fine wsX11_fine) := goodIn_app (goodIn_of _ (by decide +kernel)) ggX11_as_X11_fine
theorem dX11_as_0 : decode cX11_as 0 = .ok (.iload_n 1, 1) := by decide +kernel
theorem dX11_as_1 : decode cX11_as 1 = .ok (.invokestatic 136, 3) := by decide +kernel
theorem dX11_as_4 : decode cX11_as 4 = .ok (.ifCond .eq 10, 3) := by decide +kernel
theorem dX11_as_7 : decode cX11_as 7 = .ok (.iload_n 2, 1) := by decide +kernel
theorem dX11_as_8 : decode cX11_as 8 = .ok (.invokestatic 216, 3) := by decide +kernel
theorem dX11_as_11 : decode cX11_as 11 = .ok (.ifCond .ne 6, 3) := by decide +kernel
theorem dX11_as_14 : decode cX11_as 14 = .ok (.ldc 80, 2) := by decide +kernel
theorem dX11_as_16 : decode cX11_as 16 = .ok (.ireturn, 1) := by decide +kernel
theorem dX11_as_17 : decode cX11_as 17 = .ok (.aload_n 0, 1) := by decide +kernel
theorem dX11_as_18 : decode cX11_as 18 = .ok (.getfield 17, 3) := by decide +kernel
theorem dX11_as_21 : decode cX11_as 21 = .ok (.iload_n 1, 1) := by decide +kernel
theorem dX11_as_22 : decode cX11_as 22 = .ok (.aaload, 1) := by decide +kernel
theorem dX11_as_23 : decode cX11_as 23 = .ok (.astore_n 3, 1) := by decide +kernel
theorem dX11_as_24 : decode cX11_as 24 = .ok (.aload_n 3, 1) := by decide +kernel
theorem dX11_as_25 : decode cX11_as 25 = .ok (.ifnonnull 9, 3) := by decide +kernel
theorem dX11_as_28 : decode cX11_as 28 = .ok (.aload_n 0, 1) := by decide +kernel
theorem dX11_as_29 : decode cX11_as 29 = .ok (.iconst 1, 1) := by decide +kernel
theorem dX11_as_30 : decode cX11_as 30 = .ok (.invokevirtual 81, 3) := by decide +kernel
theorem dX11_as_33 : decode cX11_as 33 = .ok (.ireturn, 1) := by decide +kernel
theorem dX11_as_34 : decode cX11_as 34 = .ok (.aload_n 3, 1) := by decide +kernel
theorem dX11_as_35 : decode cX11_as 35 = .ok (.iload_n 2, 1) := by decide +kernel
theorem dX11_as_36 : decode cX11_as 36 = .ok (.invokestatic 219, 3) := by decide +kernel
theorem dX11_as_39 : decode cX11_as 39 = .ok (.ifCond .eq 14, 3) := by decide +kernel
theorem dX11_as_42 : decode cX11_as 42 = .ok (.aload_n 0, 1) := by decide +kernel
theorem dX11_as_43 : decode cX11_as 43 = .ok (.aload_n 3, 1) := by decide +kernel
theorem dX11_as_44 : decode cX11_as 44 = .ok (.getfield 154, 3) := by decide +kernel
theorem dX11_as_47 : decode cX11_as 47 = .ok (.invokevirtual 88, 3) := by decide +kernel
theorem dX11_as_50 : decode cX11_as 50 = .ok (.goto 8, 3) := by decide +kernel
theorem dX11_as_53 : decode cX11_as 53 = .ok (.aload_n 0, 1) := by decide +kernel
theorem dX11_as_54 : decode cX11_as 54 = .ok (.iconst 3, 1) := by decide +kernel
theorem dX11_as_55 : decode cX11_as 55 = .ok (.invokevirtual 81, 3) := by decide +kernel
theorem dX11_as_58 : decode cX11_as 58 = .ok (.ireturn, 1) := by decide +kernel
set_option maxRecDepth 20000 in
theorem ggX11_ask_X11_isPlace : GoodIn wsX11_ask wsX11_isPlace := goodIn_r _ [7] (by decide +kernel) (by decide +kernel)
set_option maxRecDepth 20000 in
theorem gX11_ask_X11_isPlace : GoodIn wsX11_ask (va_wsS RX11 136 yX11_isPlace wsX11_isPlace) := goodIn_app (goodIn_of _ (by decide +kernel)) ggX11_ask_X11_isPlace
set_option maxRecDepth 20000 in
theorem ggX11_ask_X9_empty : GoodIn wsX11_ask wsX9_empty := goodIn_r _ [12, 13, 99, 100] (by decide +kernel) (by decide +kernel)
set_option maxRecDepth 20000 in
theorem gX11_ask_X9_empty : GoodIn wsX11_ask (wsV RX11 223 RX9 yX9_empty wsX9_empty) := goodIn_app (goodIn_of _ (by decide +kernel)) ggX11_ask_X9_empty
set_option maxRecDepth 20000 in
theorem ggX11_ask_X11_found : GoodIn wsX11_ask wsX11_found := goodIn_r _ [17, 18, 19, 91, 92, 93, 94, 95, 96, 97, 98] (by decide +kernel) (by decide +kernel)
set_option maxRecDepth 20000 in
theorem gX11_ask_X11_found : GoodIn wsX11_ask (wsV RX11 81 RX11 yX11_found wsX11_found) := goodIn_app (goodIn_of _ (by decide +kernel)) ggX11_ask_X11_found
set_option maxRecDepth 20000 in
theorem ggX11_ask_X1_sizeAsked : GoodIn wsX11_ask wsX1_sizeAsked := goodIn_r _ [26, 27, 28, 29, 11, 30, 13, 31, 32, 21, 33, 34, 35, 36, 37, 38, 39, 40, 41, 42, 43, 44, 99, 100, 101, 102, 103, 104, 105, 106, 107, 108, 109, 110, 111, 112, 113, 114, 115, 116, 117, 118] (by decide +kernel) (by decide +kernel)
set_option maxRecDepth 20000 in
theorem gX11_ask_X1_sizeAsked_u226X1 : GoodIn wsX11_ask (va_wsO RX11 226 RX1 "TimesByPowers$World" ⟨"TimesByPowers$World", "sizeAsked", "(LTimesByPowers$Trace;)I"⟩ yX1_sizeAsked wsX1_sizeAsked) := goodIn_app (goodIn_of _ (by decide +kernel)) ggX11_ask_X1_sizeAsked
set_option maxRecDepth 20000 in
theorem ggX11_ask_X10_sizeAsked : GoodIn wsX11_ask wsX10_sizeAsked := goodIn_r _ [36, 37, 38, 28, 29, 11, 30, 13, 31, 101, 102, 103, 104, 105, 106, 107, 108, 109, 110, 111, 112, 113, 114, 115, 116, 117, 118, 99, 100] (by decide +kernel) (by decide +kernel)
set_option maxRecDepth 20000 in
theorem gX11_ask_X10_sizeAsked_u226X3 : GoodIn wsX11_ask (va_wsU RX11 226 RX3 "TimesByPowers$World" ⟨"TimesByPowers$World", "sizeAsked", "(LTimesByPowers$Trace;)I"⟩ yX10_sizeAsked wsX10_sizeAsked) := goodIn_app (goodIn_of _ (by decide +kernel)) ggX11_ask_X10_sizeAsked
set_option maxRecDepth 20000 in
theorem ggX11_ask_X4_sizeAsked : GoodIn wsX11_ask wsX4_sizeAsked := goodIn_r _ [49, 50, 28, 29, 11, 30, 13, 31, 51, 21, 52, 34, 35, 36, 37, 38, 99, 100, 101, 102, 103, 104, 105, 106, 107, 108, 109, 110, 111, 112, 113, 114, 115, 116, 117, 118] (by decide +kernel) (by decide +kernel)
set_option maxRecDepth 20000 in
theorem gX11_ask_X4_sizeAsked_u226X4 : GoodIn wsX11_ask (va_wsO RX11 226 RX4 "TimesByPowers$World" ⟨"TimesByPowers$World", "sizeAsked", "(LTimesByPowers$Trace;)I"⟩ yX4_sizeAsked wsX4_sizeAsked) := goodIn_app (goodIn_of _ (by decide +kernel)) ggX11_ask_X4_sizeAsked
set_option maxRecDepth 20000 in
theorem ggX11_ask_X7_sizeAsked : GoodIn wsX11_ask wsX7_sizeAsked := goodIn_r _ [56, 57, 28, 29, 11, 30, 13, 31, 58, 59, 60, 47, 48, 49, 50, 51, 21, 52, 34, 35, 36, 37, 38, 99, 100, 101, 102, 103, 104, 105, 106, 107, 108, 109, 110, 111, 112, 113, 114, 115, 116, 117, 118] (by decide +kernel) (by decide +kernel)
set_option maxRecDepth 20000 in
theorem gX11_ask_X7_sizeAsked_u226X7 : GoodIn wsX11_ask (va_wsO RX11 226 RX7 "TimesByPowers$World" ⟨"TimesByPowers$World", "sizeAsked", "(LTimesByPowers$Trace;)I"⟩ yX7_sizeAsked wsX7_sizeAsked) := goodIn_app (goodIn_of _ (by decide +kernel)) ggX11_ask_X7_sizeAsked
set_option maxRecDepth 20000 in
theorem ggX11_ask_X10_signAsked : GoodIn wsX11_ask wsX10_signAsked := goodIn_r _ [43, 44, 38, 28, 29, 11, 30, 13, 31, 101, 102, 103, 104, 105, 106, 107, 108, 109, 110, 111, 112, 113, 114, 115, 116, 117, 118, 99, 100] (by decide +kernel) (by decide +kernel)
set_option maxRecDepth 20000 in
theorem gX11_ask_X10_signAsked_u230X1 : GoodIn wsX11_ask (va_wsU RX11 230 RX1 "TimesByPowers$World" ⟨"TimesByPowers$World", "signAsked", "(LTimesByPowers$Trace;)I"⟩ yX10_signAsked wsX10_signAsked) := goodIn_app (goodIn_of _ (by decide +kernel)) ggX11_ask_X10_signAsked
set_option maxRecDepth 20000 in
theorem ggX11_ask_X3_signAsked : GoodIn wsX11_ask wsX3_signAsked := goodIn_r _ [68, 69, 28, 29, 11, 30, 13, 31, 70, 62, 71, 42, 35, 43, 44, 38, 72, 73, 74, 34, 36, 37, 99, 100, 101, 102, 103, 104, 105, 106, 107, 108, 109, 110, 111, 112, 113, 114, 115, 116, 117, 118] (by decide +kernel) (by decide +kernel)
set_option maxRecDepth 20000 in
theorem gX11_ask_X3_signAsked_u230X3 : GoodIn wsX11_ask (va_wsO RX11 230 RX3 "TimesByPowers$World" ⟨"TimesByPowers$World", "signAsked", "(LTimesByPowers$Trace;)I"⟩ yX3_signAsked wsX3_signAsked) := goodIn_app (goodIn_of _ (by decide +kernel)) ggX11_ask_X3_signAsked
set_option maxRecDepth 20000 in
theorem ggX11_ask_X4_signAsked : GoodIn wsX11_ask wsX4_signAsked := goodIn_r _ [77, 78, 50, 28, 29, 11, 30, 13, 31, 79, 62, 52, 42, 35, 43, 44, 38, 109, 110, 111, 112, 113, 114, 115, 116, 117, 118, 99, 100, 101, 102, 103, 104, 105, 106, 107, 108] (by decide +kernel) (by decide +kernel)
set_option maxRecDepth 20000 in
theorem gX11_ask_X4_signAsked_u230X4 : GoodIn wsX11_ask (va_wsO RX11 230 RX4 "TimesByPowers$World" ⟨"TimesByPowers$World", "signAsked", "(LTimesByPowers$Trace;)I"⟩ yX4_signAsked wsX4_signAsked) := goodIn_app (goodIn_of _ (by decide +kernel)) ggX11_ask_X4_signAsked
set_option maxRecDepth 20000 in
theorem ggX11_ask_X7_signAsked : GoodIn wsX11_ask wsX7_signAsked := goodIn_r _ [82, 83, 84, 57, 28, 29, 11, 30, 13, 31, 85, 86, 60, 76, 48, 77, 78, 50, 79, 62, 52, 42, 35, 43, 44, 38, 101, 102, 103, 104, 105, 106, 107, 108, 109, 110, 111, 112, 113, 114, 115, 116, 117, 118, 99, 100] (by decide +kernel) (by decide +kernel)
set_option maxRecDepth 20000 in
theorem gX11_ask_X7_signAsked_u230X7 : GoodIn wsX11_ask (va_wsO RX11 230 RX7 "TimesByPowers$World" ⟨"TimesByPowers$World", "signAsked", "(LTimesByPowers$Trace;)I"⟩ yX7_signAsked wsX7_signAsked) := goodIn_app (goodIn_of _ (by decide +kernel)) ggX11_ask_X7_signAsked
set_option maxRecDepth 20000 in
theorem ggX11_ask_X11_fine : GoodIn wsX11_ask wsX11_fine := goodIn_r _ [90, 18, 91, 92, 93, 94, 95, 96, 97, 98] (by decide +kernel) (by decide +kernel)
set_option maxRecDepth 20000 in
theorem gX11_ask_X11_fine : GoodIn wsX11_ask (wsV RX11 88 RX11 yX11_fine wsX11_fine) := goodIn_app (goodIn_of _ (by decide +kernel)) ggX11_ask_X11_fine
theorem dX11_ask_0 : decode cX11_ask 0 = .ok (.iload_n 1, 1) := by decide +kernel
theorem dX11_ask_1 : decode cX11_ask 1 = .ok (.invokestatic 136, 3) := by decide +kernel
theorem dX11_ask_4 : decode cX11_ask 4 = .ok (.ifCond .eq 12, 3) := by decide +kernel
theorem dX11_ask_7 : decode cX11_ask 7 = .ok (.iload_n 2, 1) := by decide +kernel
theorem dX11_ask_8 : decode cX11_ask 8 = .ok (.ifCond .lt 8, 3) := by decide +kernel
theorem dX11_ask_11 : decode cX11_ask 11 = .ok (.iload_n 2, 1) := by decide +kernel
theorem dX11_ask_12 : decode cX11_ask 12 = .ok (.iconst 1, 1) := by decide +kernel
theorem dX11_ask_13 : decode cX11_ask 13 = .ok (.if_icmp .le 6, 3) := by decide +kernel
theorem dX11_ask_16 : decode cX11_ask 16 = .ok (.ldc 80, 2) := by decide +kernel
theorem dX11_ask_18 : decode cX11_ask 18 = .ok (.ireturn, 1) := by decide +kernel
theorem dX11_ask_19 : decode cX11_ask 19 = .ok (.aload_n 0, 1) := by decide +kernel
theorem dX11_ask_20 : decode cX11_ask 20 = .ok (.getfield 24, 3) := by decide +kernel
theorem dX11_ask_23 : decode cX11_ask 23 = .ok (.invokevirtual 223, 3) := by decide +kernel
theorem dX11_ask_26 : decode cX11_ask 26 = .ok (.aload_n 0, 1) := by decide +kernel
theorem dX11_ask_27 : decode cX11_ask 27 = .ok (.getfield 17, 3) := by decide +kernel
theorem dX11_ask_30 : decode cX11_ask 30 = .ok (.iload_n 1, 1) := by decide +kernel
theorem dX11_ask_31 : decode cX11_ask 31 = .ok (.aaload, 1) := by decide +kernel
theorem dX11_ask_32 : decode cX11_ask 32 = .ok (.astore_n 3, 1) := by decide +kernel
theorem dX11_ask_33 : decode cX11_ask 33 = .ok (.aload_n 3, 1) := by decide +kernel
theorem dX11_ask_34 : decode cX11_ask 34 = .ok (.ifnonnull 9, 3) := by decide +kernel
theorem dX11_ask_37 : decode cX11_ask 37 = .ok (.aload_n 0, 1) := by decide +kernel
theorem dX11_ask_38 : decode cX11_ask 38 = .ok (.iconst 1, 1) := by decide +kernel
theorem dX11_ask_39 : decode cX11_ask 39 = .ok (.invokevirtual 81, 3) := by decide +kernel
theorem dX11_ask_42 : decode cX11_ask 42 = .ok (.ireturn, 1) := by decide +kernel
theorem dX11_ask_43 : decode cX11_ask 43 = .ok (.aload_n 0, 1) := by decide +kernel
theorem dX11_ask_44 : decode cX11_ask 44 = .ok (.iload_n 2, 1) := by decide +kernel
theorem dX11_ask_45 : decode cX11_ask 45 = .ok (.ifCond .ne 14, 3) := by decide +kernel
theorem dX11_ask_48 : decode cX11_ask 48 = .ok (.aload_n 3, 1) := by decide +kernel
theorem dX11_ask_49 : decode cX11_ask 49 = .ok (.aload_n 0, 1) := by decide +kernel
theorem dX11_ask_50 : decode cX11_ask 50 = .ok (.getfield 24, 3) := by decide +kernel
theorem dX11_ask_53 : decode cX11_ask 53 = .ok (.invokevirtual 226, 3) := by decide +kernel
theorem dX11_ask_56 : decode cX11_ask 56 = .ok (.goto 11, 3) := by decide +kernel
theorem dX11_ask_59 : decode cX11_ask 59 = .ok (.aload_n 3, 1) := by decide +kernel
theorem dX11_ask_60 : decode cX11_ask 60 = .ok (.aload_n 0, 1) := by decide +kernel
theorem dX11_ask_61 : decode cX11_ask 61 = .ok (.getfield 24, 3) := by decide +kernel
theorem dX11_ask_64 : decode cX11_ask 64 = .ok (.invokevirtual 230, 3) := by decide +kernel
theorem dX11_ask_67 : decode cX11_ask 67 = .ok (.invokevirtual 88, 3) := by decide +kernel
theorem dX11_ask_70 : decode cX11_ask 70 = .ok (.ireturn, 1) := by decide +kernel
set_option maxRecDepth 20000 in
theorem ggX11_trace_X9_has : GoodIn wsX11_trace wsX9_has := goodIn_r _ [8, 9, 18, 19] (by decide +kernel) (by decide +kernel)
set_option maxRecDepth 20000 in
theorem gX11_trace_X9_has : GoodIn wsX11_trace (wsV RX11 233 RX9 yX9_has wsX9_has) := goodIn_app (goodIn_of _ (by decide +kernel)) ggX11_trace_X9_has
theorem dX11_trace_0 : decode cX11_trace 0 = .ok (.aload_n 0, 1) := by decide +kernel
theorem dX11_trace_1 : decode cX11_trace 1 = .ok (.getfield 24, 3) := by decide +kernel
theorem dX11_trace_4 : decode cX11_trace 4 = .ok (.iload_n 1, 1) := by decide +kernel
theorem dX11_trace_5 : decode cX11_trace 5 = .ok (.invokevirtual 233, 3) := by decide +kernel
theorem dX11_trace_8 : decode cX11_trace 8 = .ok (.ifCond .eq 15, 3) := by decide +kernel
theorem dX11_trace_11 : decode cX11_trace 11 = .ok (.aload_n 0, 1) := by decide +kernel
theorem dX11_trace_12 : decode cX11_trace 12 = .ok (.getfield 24, 3) := by decide +kernel
theorem dX11_trace_15 : decode cX11_trace 15 = .ok (.getfield 234, 3) := by decide +kernel
theorem dX11_trace_18 : decode cX11_trace 18 = .ok (.iload_n 1, 1) := by decide +kernel
theorem dX11_trace_19 : decode cX11_trace 19 = .ok (.iaload, 1) := by decide +kernel
theorem dX11_trace_20 : decode cX11_trace 20 = .ok (.goto 5, 3) := by decide +kernel
theorem dX11_trace_23 : decode cX11_trace 23 = .ok (.ldc 132, 2) := by decide +kernel
theorem dX11_trace_25 : decode cX11_trace 25 = .ok (.ireturn, 1) := by decide +kernel
set_option maxRecDepth 20000 in
theorem ggX11_count_X11_rowsThere : GoodIn wsX11_count wsX11_rowsThere := goodIn_r _ [9, 10, 11, 12, 13, 14, 15, 16, 29, 30, 31, 32, 33, 34, 35, 36, 45, 46, 47] (by decide +kernel) (by decide +kernel)
set_option maxRecDepth 20000 in
theorem gX11_count_X11_rowsThere : GoodIn wsX11_count (wsV RX11 237 RX11 yX11_rowsThere wsX11_rowsThere) := goodIn_app (goodIn_of _ (by decide +kernel)) ggX11_count_X11_rowsThere
set_option maxRecDepth 20000 in
theorem ggX11_count_X11_worldsOf : GoodIn wsX11_count wsX11_worldsOf := goodIn_r _ [20, 21, 22, 23, 8, 24, 25, 26, 27, 28, 29, 30, 31, 32, 33, 34, 35, 36] (by decide +kernel) (by decide +kernel)
set_option maxRecDepth 20000 in
theorem gX11_count_X11_worldsOf : GoodIn wsX11_count (wsV RX11 240 RX11 yX11_worldsOf wsX11_worldsOf) := goodIn_app (goodIn_of _ (by decide +kernel)) ggX11_count_X11_worldsOf
theorem dX11_count_0 : decode cX11_count 0 = .ok (.iload_n 1, 1) := by decide +kernel
theorem dX11_count_1 : decode cX11_count 1 = .ok (.tableswitch 98 0 7 #[47, 52, 58, 64, 70, 76, 82, 90], 47) := by decide +kernel
theorem dX11_count_48 : decode cX11_count 48 = .ok (.aload_n 0, 1) := by decide +kernel
theorem dX11_count_49 : decode cX11_count 49 = .ok (.invokevirtual 237, 3) := by decide +kernel
theorem dX11_count_52 : decode cX11_count 52 = .ok (.ireturn, 1) := by decide +kernel
theorem dX11_count_53 : decode cX11_count 53 = .ok (.aload_n 0, 1) := by decide +kernel
theorem dX11_count_54 : decode cX11_count 54 = .ok (.iconst 0, 1) := by decide +kernel
theorem dX11_count_55 : decode cX11_count 55 = .ok (.invokevirtual 240, 3) := by decide +kernel
theorem dX11_count_58 : decode cX11_count 58 = .ok (.ireturn, 1) := by decide +kernel
theorem dX11_count_59 : decode cX11_count 59 = .ok (.aload_n 0, 1) := by decide +kernel
theorem dX11_count_60 : decode cX11_count 60 = .ok (.iconst 1, 1) := by decide +kernel
theorem dX11_count_61 : decode cX11_count 61 = .ok (.invokevirtual 240, 3) := by decide +kernel
theorem dX11_count_64 : decode cX11_count 64 = .ok (.ireturn, 1) := by decide +kernel
theorem dX11_count_65 : decode cX11_count 65 = .ok (.aload_n 0, 1) := by decide +kernel
theorem dX11_count_66 : decode cX11_count 66 = .ok (.iconst 2, 1) := by decide +kernel
theorem dX11_count_67 : decode cX11_count 67 = .ok (.invokevirtual 240, 3) := by decide +kernel
theorem dX11_count_70 : decode cX11_count 70 = .ok (.ireturn, 1) := by decide +kernel
theorem dX11_count_71 : decode cX11_count 71 = .ok (.aload_n 0, 1) := by decide +kernel
theorem dX11_count_72 : decode cX11_count 72 = .ok (.iconst 3, 1) := by decide +kernel
theorem dX11_count_73 : decode cX11_count 73 = .ok (.invokevirtual 240, 3) := by decide +kernel
theorem dX11_count_76 : decode cX11_count 76 = .ok (.ireturn, 1) := by decide +kernel
theorem dX11_count_77 : decode cX11_count 77 = .ok (.aload_n 0, 1) := by decide +kernel
theorem dX11_count_78 : decode cX11_count 78 = .ok (.iconst 4, 1) := by decide +kernel
theorem dX11_count_79 : decode cX11_count 79 = .ok (.invokevirtual 240, 3) := by decide +kernel
theorem dX11_count_82 : decode cX11_count 82 = .ok (.ireturn, 1) := by decide +kernel
theorem dX11_count_83 : decode cX11_count 83 = .ok (.aload_n 0, 1) := by decide +kernel
theorem dX11_count_84 : decode cX11_count 84 = .ok (.getfield 50, 3) := by decide +kernel
theorem dX11_count_87 : decode cX11_count 87 = .ok (.getfield 243, 3) := by decide +kernel
theorem dX11_count_90 : decode cX11_count 90 = .ok (.ireturn, 1) := by decide +kernel
theorem dX11_count_91 : decode cX11_count 91 = .ok (.aload_n 0, 1) := by decide +kernel
theorem dX11_count_92 : decode cX11_count 92 = .ok (.getfield 50, 3) := by decide +kernel
theorem dX11_count_95 : decode cX11_count 95 = .ok (.getfield 246, 3) := by decide +kernel
theorem dX11_count_98 : decode cX11_count 98 = .ok (.ireturn, 1) := by decide +kernel
theorem dX11_count_99 : decode cX11_count 99 = .ok (.ldc 80, 2) := by decide +kernel
theorem dX11_count_101 : decode cX11_count 101 = .ok (.ireturn, 1) := by decide +kernel
theorem dX11_status_0 : decode cX11_status 0 = .ok (.aload_n 0, 1) := by decide +kernel
theorem dX11_status_1 : decode cX11_status 1 = .ok (.getfield 32, 3) := by decide +kernel
theorem dX11_status_4 : decode cX11_status 4 = .ok (.ireturn, 1) := by decide +kernel
theorem dX11_isRow_0 : decode cX11_isRow 0 = .ok (.iload_n 0, 1) := by decide +kernel
theorem dX11_isRow_1 : decode cX11_isRow 1 = .ok (.ifCond .lt 13, 3) := by decide +kernel
theorem dX11_isRow_4 : decode cX11_isRow 4 = .ok (.iload_n 0, 1) := by decide +kernel
theorem dX11_isRow_5 : decode cX11_isRow 5 = .ok (.bipush 8, 2) := by decide +kernel
theorem dX11_isRow_7 : decode cX11_isRow 7 = .ok (.if_icmp .ge 7, 3) := by decide +kernel
theorem dX11_isRow_10 : decode cX11_isRow 10 = .ok (.iconst 1, 1) := by decide +kernel
theorem dX11_isRow_11 : decode cX11_isRow 11 = .ok (.goto 4, 3) := by decide +kernel
theorem dX11_isRow_14 : decode cX11_isRow 14 = .ok (.iconst 0, 1) := by decide +kernel
theorem dX11_isRow_15 : decode cX11_isRow 15 = .ok (.ireturn, 1) := by decide +kernel
theorem dX11_isPlace_0 : decode cX11_isPlace 0 = .ok (.iload_n 0, 1) := by decide +kernel
theorem dX11_isPlace_1 : decode cX11_isPlace 1 = .ok (.ifCond .lt 13, 3) := by decide +kernel
theorem dX11_isPlace_4 : decode cX11_isPlace 4 = .ok (.iload_n 0, 1) := by decide +kernel
theorem dX11_isPlace_5 : decode cX11_isPlace 5 = .ok (.bipush 10, 2) := by decide +kernel
theorem dX11_isPlace_7 : decode cX11_isPlace 7 = .ok (.if_icmp .ge 7, 3) := by decide +kernel
theorem dX11_isPlace_10 : decode cX11_isPlace 10 = .ok (.iconst 1, 1) := by decide +kernel
theorem dX11_isPlace_11 : decode cX11_isPlace 11 = .ok (.goto 4, 3) := by decide +kernel
theorem dX11_isPlace_14 : decode cX11_isPlace 14 = .ok (.iconst 0, 1) := by decide +kernel
theorem dX11_isPlace_15 : decode cX11_isPlace 15 = .ok (.ireturn, 1) := by decide +kernel
theorem dX11_isKind_0 : decode cX11_isKind 0 = .ok (.iload_n 0, 1) := by decide +kernel
theorem dX11_isKind_1 : decode cX11_isKind 1 = .ok (.ifCond .lt 12, 3) := by decide +kernel
theorem dX11_isKind_4 : decode cX11_isKind 4 = .ok (.iload_n 0, 1) := by decide +kernel
theorem dX11_isKind_5 : decode cX11_isKind 5 = .ok (.iconst 5, 1) := by decide +kernel
theorem dX11_isKind_6 : decode cX11_isKind 6 = .ok (.if_icmp .ge 7, 3) := by decide +kernel
theorem dX11_isKind_9 : decode cX11_isKind 9 = .ok (.iconst 1, 1) := by decide +kernel
theorem dX11_isKind_10 : decode cX11_isKind 10 = .ok (.goto 4, 3) := by decide +kernel
theorem dX11_isKind_13 : decode cX11_isKind 13 = .ok (.iconst 0, 1) := by decide +kernel
theorem dX11_isKind_14 : decode cX11_isKind 14 = .ok (.ireturn, 1) := by decide +kernel
theorem dX11_isOf_0 : decode cX11_isOf 0 = .ok (.iload_n 1, 1) := by decide +kernel
theorem dX11_isOf_1 : decode cX11_isOf 1 = .ok (.tableswitch 65 0 4 #[35, 45, 50, 55, 60], 35) := by decide +kernel
theorem dX11_isOf_36 : decode cX11_isOf 36 = .ok (.aload_n 0, 1) := by decide +kernel
theorem dX11_isOf_37 : decode cX11_isOf 37 = .ok (.ifnull 7, 3) := by decide +kernel
theorem dX11_isOf_40 : decode cX11_isOf 40 = .ok (.iconst 1, 1) := by decide +kernel
theorem dX11_isOf_41 : decode cX11_isOf 41 = .ok (.goto 4, 3) := by decide +kernel
theorem dX11_isOf_44 : decode cX11_isOf 44 = .ok (.iconst 0, 1) := by decide +kernel
theorem dX11_isOf_45 : decode cX11_isOf 45 = .ok (.ireturn, 1) := by decide +kernel
theorem dX11_isOf_46 : decode cX11_isOf 46 = .ok (.aload_n 0, 1) := by decide +kernel
theorem dX11_isOf_47 : decode cX11_isOf 47 = .ok (.instanceof 249, 3) := by decide +kernel
theorem dX11_isOf_50 : decode cX11_isOf 50 = .ok (.ireturn, 1) := by decide +kernel
theorem dX11_isOf_51 : decode cX11_isOf 51 = .ok (.aload_n 0, 1) := by decide +kernel
theorem dX11_isOf_52 : decode cX11_isOf 52 = .ok (.instanceof 174, 3) := by decide +kernel
theorem dX11_isOf_55 : decode cX11_isOf 55 = .ok (.ireturn, 1) := by decide +kernel
theorem dX11_isOf_56 : decode cX11_isOf 56 = .ok (.aload_n 0, 1) := by decide +kernel
theorem dX11_isOf_57 : decode cX11_isOf 57 = .ok (.instanceof 251, 3) := by decide +kernel
theorem dX11_isOf_60 : decode cX11_isOf 60 = .ok (.ireturn, 1) := by decide +kernel
theorem dX11_isOf_61 : decode cX11_isOf 61 = .ok (.aload_n 0, 1) := by decide +kernel
theorem dX11_isOf_62 : decode cX11_isOf 62 = .ok (.instanceof 253, 3) := by decide +kernel
theorem dX11_isOf_65 : decode cX11_isOf 65 = .ok (.ireturn, 1) := by decide +kernel
theorem dX11_isOf_66 : decode cX11_isOf 66 = .ok (.iconst 0, 1) := by decide +kernel
theorem dX11_isOf_67 : decode cX11_isOf 67 = .ok (.ireturn, 1) := by decide +kernel
theorem dX11_found_0 : decode cX11_found 0 = .ok (.aload_n 0, 1) := by decide +kernel
theorem dX11_found_1 : decode cX11_found 1 = .ok (.iload_n 1, 1) := by decide +kernel
theorem dX11_found_2 : decode cX11_found 2 = .ok (.putfield 32, 3) := by decide +kernel
theorem dX11_found_5 : decode cX11_found 5 = .ok (.ldc 255, 2) := by decide +kernel
theorem dX11_found_7 : decode cX11_found 7 = .ok (.iload_n 1, 1) := by decide +kernel
theorem dX11_found_8 : decode cX11_found 8 = .ok (.isub, 1) := by decide +kernel
theorem dX11_found_9 : decode cX11_found 9 = .ok (.ireturn, 1) := by decide +kernel
theorem dX11_fine_0 : decode cX11_fine 0 = .ok (.aload_n 0, 1) := by decide +kernel
theorem dX11_fine_1 : decode cX11_fine 1 = .ok (.iconst 0, 1) := by decide +kernel
theorem dX11_fine_2 : decode cX11_fine 2 = .ok (.putfield 32, 3) := by decide +kernel
theorem dX11_fine_5 : decode cX11_fine 5 = .ok (.iload_n 1, 1) := by decide +kernel
theorem dX11_fine_6 : decode cX11_fine 6 = .ok (.ireturn, 1) := by decide +kernel
set_option maxRecDepth 20000 in
theorem ggX11_take_X5_isMissing : GoodIn wsX11_take wsX5_isMissing := goodIn_r _ [10, 11, 37, 38, 39] (by decide +kernel) (by decide +kernel)
set_option maxRecDepth 20000 in
theorem gX11_take_X5_isMissing : GoodIn wsX11_take (wsV RX11 91 RX5 yX5_isMissing wsX5_isMissing) := goodIn_app (goodIn_of _ (by decide +kernel)) ggX11_take_X5_isMissing
set_option maxRecDepth 20000 in
theorem ggX11_take_X11_found : GoodIn wsX11_take wsX11_found := goodIn_r _ [16, 17, 18, 29, 30, 31, 32, 33, 34, 35, 36] (by decide +kernel) (by decide +kernel)
set_option maxRecDepth 20000 in
theorem gX11_take_X11_found : GoodIn wsX11_take (wsV RX11 81 RX11 yX11_found wsX11_found) := goodIn_app (goodIn_of _ (by decide +kernel)) ggX11_take_X11_found
set_option maxRecDepth 20000 in
theorem ggX11_take_X5_hasItems : GoodIn wsX11_take wsX5_hasItems := goodIn_r _ [22, 11, 37, 38, 39] (by decide +kernel) (by decide +kernel)
set_option maxRecDepth 20000 in
theorem gX11_take_X5_hasItems : GoodIn wsX11_take (wsV RX11 95 RX5 yX5_hasItems wsX5_hasItems) := goodIn_app (goodIn_of _ (by decide +kernel)) ggX11_take_X5_hasItems
set_option maxRecDepth 20000 in
theorem ggX11_take_X2_has : GoodIn wsX11_take wsX2_has := goodIn_r _ [27, 28, 40, 41, 42, 43, 44, 45, 46, 47] (by decide +kernel) (by decide +kernel)
set_option maxRecDepth 20000 in
theorem gX11_take_X2_has : GoodIn wsX11_take (wsV RX11 118 RX2 yX2_has wsX2_has) := goodIn_app (goodIn_of _ (by decide +kernel)) ggX11_take_X2_has
theorem dX11_take_0 : decode cX11_take 0 = .ok (.aload_n 0, 1) := by decide +kernel
theorem dX11_take_1 : decode cX11_take 1 = .ok (.getfield 11, 3) := by decide +kernel
theorem dX11_take_4 : decode cX11_take 4 = .ok (.iload_n 1, 1) := by decide +kernel
theorem dX11_take_5 : decode cX11_take 5 = .ok (.aaload, 1) := by decide +kernel
theorem dX11_take_6 : decode cX11_take 6 = .ok (.astore 4, 2) := by decide +kernel
theorem dX11_take_8 : decode cX11_take 8 = .ok (.aload 4, 2) := by decide +kernel
theorem dX11_take_10 : decode cX11_take 10 = .ok (.invokevirtual 91, 3) := by decide +kernel
theorem dX11_take_13 : decode cX11_take 13 = .ok (.ifCond .eq 9, 3) := by decide +kernel
theorem dX11_take_16 : decode cX11_take 16 = .ok (.aload_n 0, 1) := by decide +kernel
theorem dX11_take_17 : decode cX11_take 17 = .ok (.iconst 1, 1) := by decide +kernel
theorem dX11_take_18 : decode cX11_take 18 = .ok (.invokevirtual 81, 3) := by decide +kernel
theorem dX11_take_21 : decode cX11_take 21 = .ok (.ireturn, 1) := by decide +kernel
theorem dX11_take_22 : decode cX11_take 22 = .ok (.aload 4, 2) := by decide +kernel
theorem dX11_take_24 : decode cX11_take 24 = .ok (.iload_n 2, 1) := by decide +kernel
theorem dX11_take_25 : decode cX11_take 25 = .ok (.iload_n 3, 1) := by decide +kernel
theorem dX11_take_26 : decode cX11_take 26 = .ok (.iconst 1, 1) := by decide +kernel
theorem dX11_take_27 : decode cX11_take 27 = .ok (.iadd, 1) := by decide +kernel
theorem dX11_take_28 : decode cX11_take 28 = .ok (.invokevirtual 95, 3) := by decide +kernel
theorem dX11_take_31 : decode cX11_take 31 = .ok (.ifCond .ne 9, 3) := by decide +kernel
theorem dX11_take_34 : decode cX11_take 34 = .ok (.aload_n 0, 1) := by decide +kernel
theorem dX11_take_35 : decode cX11_take 35 = .ok (.iconst 2, 1) := by decide +kernel
theorem dX11_take_36 : decode cX11_take 36 = .ok (.invokevirtual 81, 3) := by decide +kernel
theorem dX11_take_39 : decode cX11_take 39 = .ok (.ireturn, 1) := by decide +kernel
theorem dX11_take_40 : decode cX11_take 40 = .ok (.iconst 0, 1) := by decide +kernel
theorem dX11_take_41 : decode cX11_take 41 = .ok (.istore 5, 2) := by decide +kernel
theorem dX11_take_43 : decode cX11_take 43 = .ok (.iload 5, 2) := by decide +kernel
theorem dX11_take_45 : decode cX11_take 45 = .ok (.iload_n 3, 1) := by decide +kernel
theorem dX11_take_46 : decode cX11_take 46 = .ok (.if_icmp .gt 46, 3) := by decide +kernel
theorem dX11_take_49 : decode cX11_take 49 = .ok (.aload_n 0, 1) := by decide +kernel
theorem dX11_take_50 : decode cX11_take 50 = .ok (.getfield 28, 3) := by decide +kernel
theorem dX11_take_53 : decode cX11_take 53 = .ok (.iload 5, 2) := by decide +kernel
theorem dX11_take_55 : decode cX11_take 55 = .ok (.aload 4, 2) := by decide +kernel
theorem dX11_take_57 : decode cX11_take 57 = .ok (.getfield 105, 3) := by decide +kernel
theorem dX11_take_60 : decode cX11_take 60 = .ok (.iload_n 2, 1) := by decide +kernel
theorem dX11_take_61 : decode cX11_take 61 = .ok (.iload 5, 2) := by decide +kernel
theorem dX11_take_63 : decode cX11_take 63 = .ok (.iadd, 1) := by decide +kernel
theorem dX11_take_64 : decode cX11_take 64 = .ok (.iaload, 1) := by decide +kernel
theorem dX11_take_65 : decode cX11_take 65 = .ok (.iastore, 1) := by decide +kernel
theorem dX11_take_66 : decode cX11_take 66 = .ok (.aload_n 0, 1) := by decide +kernel
theorem dX11_take_67 : decode cX11_take 67 = .ok (.getfield 50, 3) := by decide +kernel
theorem dX11_take_70 : decode cX11_take 70 = .ok (.aload_n 0, 1) := by decide +kernel
theorem dX11_take_71 : decode cX11_take 71 = .ok (.getfield 28, 3) := by decide +kernel
theorem dX11_take_74 : decode cX11_take 74 = .ok (.iload 5, 2) := by decide +kernel
theorem dX11_take_76 : decode cX11_take 76 = .ok (.iaload, 1) := by decide +kernel
theorem dX11_take_77 : decode cX11_take 77 = .ok (.invokevirtual 118, 3) := by decide +kernel
theorem dX11_take_80 : decode cX11_take 80 = .ok (.ifCond .ne 6, 3) := by decide +kernel
theorem dX11_take_83 : decode cX11_take 83 = .ok (.ldc 80, 2) := by decide +kernel
theorem dX11_take_85 : decode cX11_take 85 = .ok (.ireturn, 1) := by decide +kernel
theorem dX11_take_86 : decode cX11_take 86 = .ok (.iinc 5 1, 3) := by decide +kernel
theorem dX11_take_89 : decode cX11_take 89 = .ok (.goto (-46), 3) := by decide +kernel
theorem dX11_take_92 : decode cX11_take 92 = .ok (.aload_n 0, 1) := by decide +kernel
theorem dX11_take_93 : decode cX11_take 93 = .ok (.getfield 28, 3) := by decide +kernel
theorem dX11_take_96 : decode cX11_take 96 = .ok (.iload_n 3, 1) := by decide +kernel
theorem dX11_take_97 : decode cX11_take 97 = .ok (.iaload, 1) := by decide +kernel
theorem dX11_take_98 : decode cX11_take 98 = .ok (.ifCond .ne 8, 3) := by decide +kernel
theorem dX11_take_101 : decode cX11_take 101 = .ok (.ldc 80, 2) := by decide +kernel
theorem dX11_take_103 : decode cX11_take 103 = .ok (.goto 4, 3) := by decide +kernel
theorem dX11_take_106 : decode cX11_take 106 = .ok (.iconst 0, 1) := by decide +kernel
theorem dX11_take_107 : decode cX11_take 107 = .ok (.ireturn, 1) := by decide +kernel
set_option maxRecDepth 20000 in
theorem ggX11_takeMap_X11_found : GoodIn wsX11_takeMap wsX11_found := goodIn_r _ [7, 8, 9, 33, 34, 35, 36, 37, 38, 39, 40] (by decide +kernel) (by decide +kernel)
set_option maxRecDepth 20000 in
theorem gX11_takeMap_X11_found : GoodIn wsX11_takeMap (wsV RX11 81 RX11 yX11_found wsX11_found) := goodIn_app (goodIn_of _ (by decide +kernel)) ggX11_takeMap_X11_found
set_option maxRecDepth 20000 in
theorem ggX11_takeMap_X11_take : GoodIn wsX11_takeMap wsX11_take := goodIn_r _ [13, 14, 1, 15, 16, 2, 17, 18, 19, 20, 21, 22, 3, 4, 5, 6, 7, 8, 9, 23, 24, 25, 26, 27, 28, 29, 30, 31, 32, 33, 34, 35, 36, 37, 38, 39, 40, 41, 42, 43, 44, 45, 46, 47, 48, 49, 50, 51] (by decide +kernel) (by decide +kernel)
set_option maxRecDepth 20000 in
theorem gX11_takeMap_X11_take : GoodIn wsX11_takeMap (wsV RX11 139 RX11 yX11_take wsX11_take) := goodIn_app (goodIn_of _ (by decide +kernel)) ggX11_takeMap_X11_take
theorem dX11_takeMap_0 : decode cX11_takeMap 0 = .ok (.aload_n 1, 1) := by decide +kernel
theorem dX11_takeMap_1 : decode cX11_takeMap 1 = .ok (.ifnonnull 9, 3) := by decide +kernel
theorem dX11_takeMap_4 : decode cX11_takeMap 4 = .ok (.aload_n 0, 1) := by decide +kernel
theorem dX11_takeMap_5 : decode cX11_takeMap 5 = .ok (.iconst 1, 1) := by decide +kernel
theorem dX11_takeMap_6 : decode cX11_takeMap 6 = .ok (.invokevirtual 81, 3) := by decide +kernel
theorem dX11_takeMap_9 : decode cX11_takeMap 9 = .ok (.ireturn, 1) := by decide +kernel
theorem dX11_takeMap_10 : decode cX11_takeMap 10 = .ok (.aload_n 0, 1) := by decide +kernel
theorem dX11_takeMap_11 : decode cX11_takeMap 11 = .ok (.iload_n 2, 1) := by decide +kernel
theorem dX11_takeMap_12 : decode cX11_takeMap 12 = .ok (.iload_n 3, 1) := by decide +kernel
theorem dX11_takeMap_13 : decode cX11_takeMap 13 = .ok (.iload 4, 2) := by decide +kernel
theorem dX11_takeMap_15 : decode cX11_takeMap 15 = .ok (.invokevirtual 139, 3) := by decide +kernel
theorem dX11_takeMap_18 : decode cX11_takeMap 18 = .ok (.istore 5, 2) := by decide +kernel
theorem dX11_takeMap_20 : decode cX11_takeMap 20 = .ok (.iload 5, 2) := by decide +kernel
theorem dX11_takeMap_22 : decode cX11_takeMap 22 = .ok (.ifCond .ne 17, 3) := by decide +kernel
theorem dX11_takeMap_25 : decode cX11_takeMap 25 = .ok (.aload_n 0, 1) := by decide +kernel
theorem dX11_takeMap_26 : decode cX11_takeMap 26 = .ok (.getfield 28, 3) := by decide +kernel
theorem dX11_takeMap_29 : decode cX11_takeMap 29 = .ok (.iconst 0, 1) := by decide +kernel
theorem dX11_takeMap_30 : decode cX11_takeMap 30 = .ok (.iaload, 1) := by decide +kernel
theorem dX11_takeMap_31 : decode cX11_takeMap 31 = .ok (.ifCond .ne 8, 3) := by decide +kernel
theorem dX11_takeMap_34 : decode cX11_takeMap 34 = .ok (.ldc 80, 2) := by decide +kernel
theorem dX11_takeMap_36 : decode cX11_takeMap 36 = .ok (.goto 5, 3) := by decide +kernel
theorem dX11_takeMap_39 : decode cX11_takeMap 39 = .ok (.iload 5, 2) := by decide +kernel
theorem dX11_takeMap_41 : decode cX11_takeMap 41 = .ok (.ireturn, 1) := by decide +kernel
set_option maxRecDepth 20000 in
theorem ggX11_shelve_X1_kindTold : GoodIn wsX11_shelve wsX1_kindTold := goodIn_r _ [7] (by decide +kernel) (by decide +kernel)
set_option maxRecDepth 20000 in
theorem gX11_shelve_X1_kindTold_u213X1 : GoodIn wsX11_shelve (va_wsU RX11 213 RX1 "TimesByPowers$World" ⟨"TimesByPowers$World", "kindTold", "()I"⟩ yX1_kindTold wsX1_kindTold) := goodIn_app (goodIn_of _ (by decide +kernel)) ggX11_shelve_X1_kindTold
set_option maxRecDepth 20000 in
theorem ggX11_shelve_X3_kindTold : GoodIn wsX11_shelve wsX3_kindTold := goodIn_r _ [11] (by decide +kernel) (by decide +kernel)
set_option maxRecDepth 20000 in
theorem gX11_shelve_X3_kindTold_u213X3 : GoodIn wsX11_shelve (va_wsU RX11 213 RX3 "TimesByPowers$World" ⟨"TimesByPowers$World", "kindTold", "()I"⟩ yX3_kindTold wsX3_kindTold) := goodIn_app (goodIn_of _ (by decide +kernel)) ggX11_shelve_X3_kindTold
set_option maxRecDepth 20000 in
theorem ggX11_shelve_X4_kindTold : GoodIn wsX11_shelve wsX4_kindTold := goodIn_r _ [15] (by decide +kernel) (by decide +kernel)
set_option maxRecDepth 20000 in
theorem gX11_shelve_X4_kindTold_u213X4 : GoodIn wsX11_shelve (va_wsU RX11 213 RX4 "TimesByPowers$World" ⟨"TimesByPowers$World", "kindTold", "()I"⟩ yX4_kindTold wsX4_kindTold) := goodIn_app (goodIn_of _ (by decide +kernel)) ggX11_shelve_X4_kindTold
set_option maxRecDepth 20000 in
theorem ggX11_shelve_X7_kindTold : GoodIn wsX11_shelve wsX7_kindTold := goodIn_r _ [19] (by decide +kernel) (by decide +kernel)
set_option maxRecDepth 20000 in
theorem gX11_shelve_X7_kindTold_u213X7 : GoodIn wsX11_shelve (va_wsU RX11 213 RX7 "TimesByPowers$World" ⟨"TimesByPowers$World", "kindTold", "()I"⟩ yX7_kindTold wsX7_kindTold) := goodIn_app (goodIn_of _ (by decide +kernel)) ggX11_shelve_X7_kindTold
set_option maxRecDepth 20000 in
theorem ggX11_shelve_X11_fine : GoodIn wsX11_shelve wsX11_fine := goodIn_r _ [24, 25, 26, 27, 28, 29, 30, 31, 32, 33] (by decide +kernel) (by decide +kernel)
set_option maxRecDepth 20000 in
theorem gX11_shelve_X11_fine : GoodIn wsX11_shelve (wsV RX11 88 RX11 yX11_fine wsX11_fine) := goodIn_app (goodIn_of _ (by decide +kernel)) ggX11_shelve_X11_fine
theorem dX11_shelve_0 : decode cX11_shelve 0 = .ok (.aload_n 0, 1) := by decide +kernel
theorem dX11_shelve_1 : decode cX11_shelve 1 = .ok (.getfield 17, 3) := by decide +kernel
theorem dX11_shelve_4 : decode cX11_shelve 4 = .ok (.iload_n 1, 1) := by decide +kernel
theorem dX11_shelve_5 : decode cX11_shelve 5 = .ok (.aload_n 2, 1) := by decide +kernel
theorem dX11_shelve_6 : decode cX11_shelve 6 = .ok (.aastore, 1) := by decide +kernel
theorem dX11_shelve_7 : decode cX11_shelve 7 = .ok (.aload_n 0, 1) := by decide +kernel
theorem dX11_shelve_8 : decode cX11_shelve 8 = .ok (.aload_n 2, 1) := by decide +kernel
theorem dX11_shelve_9 : decode cX11_shelve 9 = .ok (.invokevirtual 213, 3) := by decide +kernel
theorem dX11_shelve_12 : decode cX11_shelve 12 = .ok (.invokevirtual 88, 3) := by decide +kernel
theorem dX11_shelve_15 : decode cX11_shelve 15 = .ok (.ireturn, 1) := by decide +kernel
set_option maxRecDepth 20000 in
theorem ggX11_tellOf_X8_heightOf : GoodIn wsX11_tellOf wsX8_heightOf := goodIn_r _ [11, 12, 13, 14, 15, 16, 10, 17, 18, 19, 20, 21, 22, 23, 24, 25, 26, 27, 28, 29, 30, 31, 32, 33, 34, 35, 36, 37, 38, 39, 40, 41, 42, 43, 44, 45, 46, 47, 48, 49, 50, 51, 52, 53, 54, 55, 56, 57, 58, 59, 60, 61, 62, 63, 64, 65, 66, 67, 68, 69, 70, 71, 72, 73, 74, 75, 76, 77, 78, 79, 80, 81, 185, 186, 187, 188, 189, 190, 191, 192, 193, 194, 195, 196, 197, 198, 199, 200, 201, 202, 211, 212, 213, 214, 215, 216, 217, 218, 219, 220, 221, 222, 223, 224, 225, 226, 227, 228] (by decide +kernel) (by decide +kernel)
set_option maxRecDepth 20000 in
theorem gX11_tellOf_X8_heightOf : GoodIn wsX11_tellOf (wsV RX11 259 RX8 yX8_heightOf wsX8_heightOf) := goodIn_app (goodIn_of _ (by decide +kernel)) ggX11_tellOf_X8_heightOf
set_option maxRecDepth 20000 in
theorem ggX11_tellOf_X0_wholeOf : GoodIn wsX11_tellOf wsX0_wholeOf := goodIn_r _ [86, 87, 88, 89, 90, 91, 92, 93, 94, 85, 95, 96, 97, 98, 99, 100, 48, 49, 23, 50, 51, 52, 53, 54, 55, 56, 57, 58, 59, 60, 61, 62, 63, 64, 65, 66, 101, 68, 69, 70, 71, 102, 103, 104, 105, 106, 107, 108, 109, 110, 111, 112, 113, 114, 115, 116, 117, 118, 119, 120, 121, 122, 123, 35, 36, 37, 124, 125, 126, 127, 128, 129, 130, 131, 132, 133, 134, 135, 136, 137, 138, 139, 140, 141, 142, 143, 144, 145, 146, 147, 148, 149, 150, 151, 152, 153, 154, 155, 156, 157, 158, 159, 160, 161, 162, 163, 164, 165, 166, 167, 168, 169, 170, 171, 172, 173, 174, 175, 176, 177, 178, 25, 179, 77, 78, 79, 229, 230, 231, 232, 233, 234, 235, 236, 237, 238, 239, 240, 221, 222, 223, 224, 225, 226, 227, 228, 185, 186, 187, 188, 189, 190, 191, 192, 193, 194, 195, 196, 197, 198, 199, 200, 201, 202, 241, 242, 243, 244, 245, 246, 247, 248, 249, 250] (by decide +kernel) (by decide +kernel)
set_option maxRecDepth 20000 in
theorem gX11_tellOf_X0_wholeOf : GoodIn wsX11_tellOf (wsV RX11 263 RX0 yX0_wholeOf wsX0_wholeOf) := goodIn_app (goodIn_of _ (by decide +kernel)) ggX11_tellOf_X0_wholeOf
set_option maxRecDepth 20000 in
theorem ggX11_tellOf_X0_leastOf : GoodIn wsX11_tellOf wsX0_leastOf := goodIn_r _ [183, 88, 89, 90, 184, 87, 92, 93, 94, 85, 95, 96, 97, 98, 99, 100, 48, 49, 23, 50, 51, 52, 53, 54, 55, 56, 57, 58, 59, 60, 61, 62, 63, 64, 65, 66, 101, 68, 69, 70, 71, 102, 103, 104, 105, 106, 107, 108, 109, 110, 111, 112, 113, 114, 115, 116, 117, 128, 129, 130, 131, 132, 133, 134, 135, 136, 137, 138, 168, 169, 170, 171, 172, 173, 174, 35, 36, 37, 139, 140, 141, 142, 143, 123, 144, 145, 146, 147, 148, 149, 150, 122, 151, 152, 153, 154, 155, 156, 157, 158, 159, 160, 161, 162, 163, 164, 165, 166, 167, 229, 230, 231, 232, 233, 234, 235, 236, 237, 238, 239, 240, 221, 222, 223, 224, 225, 226, 227, 228, 185, 186, 187, 188, 189, 190, 191, 192, 193, 194, 195, 196, 197, 198, 199, 200, 201, 202, 241, 242, 243, 244, 245, 246, 247, 248, 249, 250] (by decide +kernel) (by decide +kernel)
set_option maxRecDepth 20000 in
theorem gX11_tellOf_X0_leastOf : GoodIn wsX11_tellOf (wsV RX11 266 RX0 yX0_leastOf wsX0_leastOf) := goodIn_app (goodIn_of _ (by decide +kernel)) ggX11_tellOf_X0_leastOf
theorem dX11_tellOf_0 : decode cX11_tellOf 0 = .ok (.iload_n 2, 1) := by decide +kernel
theorem dX11_tellOf_1 : decode cX11_tellOf 1 = .ok (.tableswitch 88 0 8 #[51, 88, 88, 88, 88, 56, 61, 70, 79], 51) := by decide +kernel
theorem dX11_tellOf_52 : decode cX11_tellOf 52 = .ok (.aload_n 1, 1) := by decide +kernel
theorem dX11_tellOf_53 : decode cX11_tellOf 53 = .ok (.getfield 154, 3) := by decide +kernel
theorem dX11_tellOf_56 : decode cX11_tellOf 56 = .ok (.ireturn, 1) := by decide +kernel
theorem dX11_tellOf_57 : decode cX11_tellOf 57 = .ok (.aload_n 1, 1) := by decide +kernel
theorem dX11_tellOf_58 : decode cX11_tellOf 58 = .ok (.getfield 256, 3) := by decide +kernel
theorem dX11_tellOf_61 : decode cX11_tellOf 61 = .ok (.ireturn, 1) := by decide +kernel
theorem dX11_tellOf_62 : decode cX11_tellOf 62 = .ok (.aload_n 0, 1) := by decide +kernel
theorem dX11_tellOf_63 : decode cX11_tellOf 63 = .ok (.getfield 64, 3) := by decide +kernel
theorem dX11_tellOf_66 : decode cX11_tellOf 66 = .ok (.aload_n 1, 1) := by decide +kernel
theorem dX11_tellOf_67 : decode cX11_tellOf 67 = .ok (.invokevirtual 259, 3) := by decide +kernel
theorem dX11_tellOf_70 : decode cX11_tellOf 70 = .ok (.ireturn, 1) := by decide +kernel
theorem dX11_tellOf_71 : decode cX11_tellOf 71 = .ok (.aload_n 0, 1) := by decide +kernel
theorem dX11_tellOf_72 : decode cX11_tellOf 72 = .ok (.getfield 71, 3) := by decide +kernel
theorem dX11_tellOf_75 : decode cX11_tellOf 75 = .ok (.aload_n 1, 1) := by decide +kernel
theorem dX11_tellOf_76 : decode cX11_tellOf 76 = .ok (.invokevirtual 263, 3) := by decide +kernel
theorem dX11_tellOf_79 : decode cX11_tellOf 79 = .ok (.ireturn, 1) := by decide +kernel
theorem dX11_tellOf_80 : decode cX11_tellOf 80 = .ok (.aload_n 0, 1) := by decide +kernel
theorem dX11_tellOf_81 : decode cX11_tellOf 81 = .ok (.getfield 71, 3) := by decide +kernel
theorem dX11_tellOf_84 : decode cX11_tellOf 84 = .ok (.aload_n 1, 1) := by decide +kernel
theorem dX11_tellOf_85 : decode cX11_tellOf 85 = .ok (.invokevirtual 266, 3) := by decide +kernel
theorem dX11_tellOf_88 : decode cX11_tellOf 88 = .ok (.ireturn, 1) := by decide +kernel
theorem dX11_tellOf_89 : decode cX11_tellOf 89 = .ok (.iload_n 2, 1) := by decide +kernel
theorem dX11_tellOf_90 : decode cX11_tellOf 90 = .ok (.iconst 1, 1) := by decide +kernel
theorem dX11_tellOf_91 : decode cX11_tellOf 91 = .ok (.if_icmp .lt 19, 3) := by decide +kernel
theorem dX11_tellOf_94 : decode cX11_tellOf 94 = .ok (.iload_n 2, 1) := by decide +kernel
theorem dX11_tellOf_95 : decode cX11_tellOf 95 = .ok (.iconst 4, 1) := by decide +kernel
theorem dX11_tellOf_96 : decode cX11_tellOf 96 = .ok (.if_icmp .gt 14, 3) := by decide +kernel
theorem dX11_tellOf_99 : decode cX11_tellOf 99 = .ok (.aload_n 1, 1) := by decide +kernel
theorem dX11_tellOf_100 : decode cX11_tellOf 100 = .ok (.getfield 269, 3) := by decide +kernel
theorem dX11_tellOf_103 : decode cX11_tellOf 103 = .ok (.iload_n 2, 1) := by decide +kernel
theorem dX11_tellOf_104 : decode cX11_tellOf 104 = .ok (.iconst 1, 1) := by decide +kernel
theorem dX11_tellOf_105 : decode cX11_tellOf 105 = .ok (.isub, 1) := by decide +kernel
theorem dX11_tellOf_106 : decode cX11_tellOf 106 = .ok (.iaload, 1) := by decide +kernel
theorem dX11_tellOf_107 : decode cX11_tellOf 107 = .ok (.goto 5, 3) := by decide +kernel
theorem dX11_tellOf_110 : decode cX11_tellOf 110 = .ok (.ldc 80, 2) := by decide +kernel
theorem dX11_tellOf_112 : decode cX11_tellOf 112 = .ok (.ireturn, 1) := by decide +kernel
set_option maxRecDepth 20000 in
theorem ggX11_rowsThere_X5_isMissing : GoodIn wsX11_rowsThere wsX5_isMissing := goodIn_r _ [6, 7, 16, 17, 18] (by decide +kernel) (by decide +kernel)
set_option maxRecDepth 20000 in
theorem gX11_rowsThere_X5_isMissing : GoodIn wsX11_rowsThere (wsV RX11 91 RX5 yX5_isMissing wsX5_isMissing) := goodIn_app (goodIn_of _ (by decide +kernel)) ggX11_rowsThere_X5_isMissing
theorem dX11_rowsThere_0 : decode cX11_rowsThere 0 = .ok (.iconst 0, 1) := by decide +kernel
theorem dX11_rowsThere_1 : decode cX11_rowsThere 1 = .ok (.istore_n 1, 1) := by decide +kernel
theorem dX11_rowsThere_2 : decode cX11_rowsThere 2 = .ok (.iconst 0, 1) := by decide +kernel
theorem dX11_rowsThere_3 : decode cX11_rowsThere 3 = .ok (.istore_n 2, 1) := by decide +kernel
theorem dX11_rowsThere_4 : decode cX11_rowsThere 4 = .ok (.iload_n 2, 1) := by decide +kernel
theorem dX11_rowsThere_5 : decode cX11_rowsThere 5 = .ok (.bipush 8, 2) := by decide +kernel
theorem dX11_rowsThere_7 : decode cX11_rowsThere 7 = .ok (.if_icmp .ge 29, 3) := by decide +kernel
theorem dX11_rowsThere_10 : decode cX11_rowsThere 10 = .ok (.iload_n 1, 1) := by decide +kernel
theorem dX11_rowsThere_11 : decode cX11_rowsThere 11 = .ok (.aload_n 0, 1) := by decide +kernel
theorem dX11_rowsThere_12 : decode cX11_rowsThere 12 = .ok (.getfield 11, 3) := by decide +kernel
theorem dX11_rowsThere_15 : decode cX11_rowsThere 15 = .ok (.iload_n 2, 1) := by decide +kernel
theorem dX11_rowsThere_16 : decode cX11_rowsThere 16 = .ok (.aaload, 1) := by decide +kernel
theorem dX11_rowsThere_17 : decode cX11_rowsThere 17 = .ok (.invokevirtual 91, 3) := by decide +kernel
theorem dX11_rowsThere_20 : decode cX11_rowsThere 20 = .ok (.ifCond .eq 7, 3) := by decide +kernel
theorem dX11_rowsThere_23 : decode cX11_rowsThere 23 = .ok (.iconst 0, 1) := by decide +kernel
theorem dX11_rowsThere_24 : decode cX11_rowsThere 24 = .ok (.goto 4, 3) := by decide +kernel
theorem dX11_rowsThere_27 : decode cX11_rowsThere 27 = .ok (.iconst 1, 1) := by decide +kernel
theorem dX11_rowsThere_28 : decode cX11_rowsThere 28 = .ok (.iadd, 1) := by decide +kernel
theorem dX11_rowsThere_29 : decode cX11_rowsThere 29 = .ok (.istore_n 1, 1) := by decide +kernel
theorem dX11_rowsThere_30 : decode cX11_rowsThere 30 = .ok (.iinc 2 1, 3) := by decide +kernel
theorem dX11_rowsThere_33 : decode cX11_rowsThere 33 = .ok (.goto (-29), 3) := by decide +kernel
theorem dX11_rowsThere_36 : decode cX11_rowsThere 36 = .ok (.iload_n 1, 1) := by decide +kernel
theorem dX11_rowsThere_37 : decode cX11_rowsThere 37 = .ok (.ireturn, 1) := by decide +kernel
set_option maxRecDepth 20000 in
theorem ggX11_worldsOf_X11_isOf : GoodIn wsX11_worldsOf wsX11_isOf := goodIn_r _ [5, 6, 7, 8, 9] (by decide +kernel) (by decide +kernel)
set_option maxRecDepth 20000 in
theorem gX11_worldsOf_X11_isOf : GoodIn wsX11_worldsOf (va_wsS RX11 219 yX11_isOf wsX11_isOf) := goodIn_app (goodIn_of _ (by decide +kernel)) ggX11_worldsOf_X11_isOf
theorem dX11_worldsOf_0 : decode cX11_worldsOf 0 = .ok (.iconst 0, 1) := by decide +kernel
theorem dX11_worldsOf_1 : decode cX11_worldsOf 1 = .ok (.istore_n 2, 1) := by decide +kernel
theorem dX11_worldsOf_2 : decode cX11_worldsOf 2 = .ok (.iconst 0, 1) := by decide +kernel
theorem dX11_worldsOf_3 : decode cX11_worldsOf 3 = .ok (.istore_n 3, 1) := by decide +kernel
theorem dX11_worldsOf_4 : decode cX11_worldsOf 4 = .ok (.iload_n 3, 1) := by decide +kernel
theorem dX11_worldsOf_5 : decode cX11_worldsOf 5 = .ok (.bipush 10, 2) := by decide +kernel
theorem dX11_worldsOf_7 : decode cX11_worldsOf 7 = .ok (.if_icmp .ge 30, 3) := by decide +kernel
theorem dX11_worldsOf_10 : decode cX11_worldsOf 10 = .ok (.iload_n 2, 1) := by decide +kernel
theorem dX11_worldsOf_11 : decode cX11_worldsOf 11 = .ok (.aload_n 0, 1) := by decide +kernel
theorem dX11_worldsOf_12 : decode cX11_worldsOf 12 = .ok (.getfield 17, 3) := by decide +kernel
theorem dX11_worldsOf_15 : decode cX11_worldsOf 15 = .ok (.iload_n 3, 1) := by decide +kernel
theorem dX11_worldsOf_16 : decode cX11_worldsOf 16 = .ok (.aaload, 1) := by decide +kernel
theorem dX11_worldsOf_17 : decode cX11_worldsOf 17 = .ok (.iload_n 1, 1) := by decide +kernel
theorem dX11_worldsOf_18 : decode cX11_worldsOf 18 = .ok (.invokestatic 219, 3) := by decide +kernel
theorem dX11_worldsOf_21 : decode cX11_worldsOf 21 = .ok (.ifCond .eq 7, 3) := by decide +kernel
theorem dX11_worldsOf_24 : decode cX11_worldsOf 24 = .ok (.iconst 1, 1) := by decide +kernel
theorem dX11_worldsOf_25 : decode cX11_worldsOf 25 = .ok (.goto 4, 3) := by decide +kernel
theorem dX11_worldsOf_28 : decode cX11_worldsOf 28 = .ok (.iconst 0, 1) := by decide +kernel
theorem dX11_worldsOf_29 : decode cX11_worldsOf 29 = .ok (.iadd, 1) := by decide +kernel
theorem dX11_worldsOf_30 : decode cX11_worldsOf 30 = .ok (.istore_n 2, 1) := by decide +kernel
theorem dX11_worldsOf_31 : decode cX11_worldsOf 31 = .ok (.iinc 3 1, 3) := by decide +kernel
theorem dX11_worldsOf_34 : decode cX11_worldsOf 34 = .ok (.goto (-30), 3) := by decide +kernel
theorem dX11_worldsOf_37 : decode cX11_worldsOf 37 = .ok (.iload_n 2, 1) := by decide +kernel
theorem dX11_worldsOf_38 : decode cX11_worldsOf 38 = .ok (.ireturn, 1) := by decide +kernel
theorem dX12_in_0 : decode cX12_in 0 = .ok (.lload_n 0, 1) := by decide +kernel
theorem dX12_in_1 : decode cX12_in 1 = .ok (.lload_n 2, 1) := by decide +kernel
theorem dX12_in_2 : decode cX12_in 2 = .ok (.lcmp, 1) := by decide +kernel
theorem dX12_in_3 : decode cX12_in 3 = .ok (.ifCond .lt 14, 3) := by decide +kernel
theorem dX12_in_6 : decode cX12_in 6 = .ok (.lload_n 0, 1) := by decide +kernel
theorem dX12_in_7 : decode cX12_in 7 = .ok (.lload 4, 2) := by decide +kernel
theorem dX12_in_9 : decode cX12_in 9 = .ok (.lcmp, 1) := by decide +kernel
theorem dX12_in_10 : decode cX12_in 10 = .ok (.ifCond .gt 7, 3) := by decide +kernel
theorem dX12_in_13 : decode cX12_in 13 = .ok (.iconst 1, 1) := by decide +kernel
theorem dX12_in_14 : decode cX12_in 14 = .ok (.goto 4, 3) := by decide +kernel
theorem dX12_in_17 : decode cX12_in 17 = .ok (.iconst 0, 1) := by decide +kernel
theorem dX12_in_18 : decode cX12_in 18 = .ok (.ireturn, 1) := by decide +kernel
theorem dX12_found_0 : decode cX12_found 0 = .ok (.aload_n 0, 1) := by decide +kernel
theorem dX12_found_1 : decode cX12_found 1 = .ok (.iload_n 1, 1) := by decide +kernel
theorem dX12_found_2 : decode cX12_found 2 = .ok (.putfield 7, 3) := by decide +kernel
theorem dX12_found_5 : decode cX12_found 5 = .ok (.ldc 10, 2) := by decide +kernel
theorem dX12_found_7 : decode cX12_found 7 = .ok (.iload_n 1, 1) := by decide +kernel
theorem dX12_found_8 : decode cX12_found 8 = .ok (.isub, 1) := by decide +kernel
theorem dX12_found_9 : decode cX12_found 9 = .ok (.ireturn, 1) := by decide +kernel
theorem dX12_figures_0 : decode cX12_figures 0 = .ok (.iload_n 1, 1) := by decide +kernel
theorem dX12_figures_1 : decode cX12_figures 1 = .ok (.istore_n 3, 1) := by decide +kernel
theorem dX12_figures_2 : decode cX12_figures 2 = .ok (.iconst (-1), 1) := by decide +kernel
theorem dX12_figures_3 : decode cX12_figures 3 = .ok (.istore 4, 2) := by decide +kernel
theorem dX12_figures_5 : decode cX12_figures 5 = .ok (.iconst 0, 1) := by decide +kernel
theorem dX12_figures_6 : decode cX12_figures 6 = .ok (.istore 5, 2) := by decide +kernel
theorem dX12_figures_8 : decode cX12_figures 8 = .ok (.iload 5, 2) := by decide +kernel
theorem dX12_figures_10 : decode cX12_figures 10 = .ok (.bipush 16, 2) := by decide +kernel
theorem dX12_figures_12 : decode cX12_figures 12 = .ok (.if_icmp .ge 42, 3) := by decide +kernel
theorem dX12_figures_15 : decode cX12_figures 15 = .ok (.aload_n 2, 1) := by decide +kernel
theorem dX12_figures_16 : decode cX12_figures 16 = .ok (.iload 5, 2) := by decide +kernel
theorem dX12_figures_18 : decode cX12_figures 18 = .ok (.iload_n 3, 1) := by decide +kernel
theorem dX12_figures_19 : decode cX12_figures 19 = .ok (.aload_n 0, 1) := by decide +kernel
theorem dX12_figures_20 : decode cX12_figures 20 = .ok (.getfield 11, 3) := by decide +kernel
theorem dX12_figures_23 : decode cX12_figures 23 = .ok (.irem, 1) := by decide +kernel
theorem dX12_figures_24 : decode cX12_figures 24 = .ok (.iastore, 1) := by decide +kernel
theorem dX12_figures_25 : decode cX12_figures 25 = .ok (.iload_n 3, 1) := by decide +kernel
theorem dX12_figures_26 : decode cX12_figures 26 = .ok (.aload_n 0, 1) := by decide +kernel
theorem dX12_figures_27 : decode cX12_figures 27 = .ok (.getfield 11, 3) := by decide +kernel
theorem dX12_figures_30 : decode cX12_figures 30 = .ok (.idiv, 1) := by decide +kernel
theorem dX12_figures_31 : decode cX12_figures 31 = .ok (.istore_n 3, 1) := by decide +kernel
theorem dX12_figures_32 : decode cX12_figures 32 = .ok (.aload_n 2, 1) := by decide +kernel
theorem dX12_figures_33 : decode cX12_figures 33 = .ok (.iload 5, 2) := by decide +kernel
theorem dX12_figures_35 : decode cX12_figures 35 = .ok (.iaload, 1) := by decide +kernel
theorem dX12_figures_36 : decode cX12_figures 36 = .ok (.ifCond .eq 8, 3) := by decide +kernel
theorem dX12_figures_39 : decode cX12_figures 39 = .ok (.iload 5, 2) := by decide +kernel
theorem dX12_figures_41 : decode cX12_figures 41 = .ok (.goto 5, 3) := by decide +kernel
theorem dX12_figures_44 : decode cX12_figures 44 = .ok (.iload 4, 2) := by decide +kernel
theorem dX12_figures_46 : decode cX12_figures 46 = .ok (.istore 4, 2) := by decide +kernel
theorem dX12_figures_48 : decode cX12_figures 48 = .ok (.iinc 5 1, 3) := by decide +kernel
theorem dX12_figures_51 : decode cX12_figures 51 = .ok (.goto (-43), 3) := by decide +kernel
theorem dX12_figures_54 : decode cX12_figures 54 = .ok (.iload 4, 2) := by decide +kernel
theorem dX12_figures_56 : decode cX12_figures 56 = .ok (.ireturn, 1) := by decide +kernel
theorem dX12_power_0 : decode cX12_power 0 = .ok (.iconst 1, 1) := by decide +kernel
theorem dX12_power_1 : decode cX12_power 1 = .ok (.istore_n 2, 1) := by decide +kernel
theorem dX12_power_2 : decode cX12_power 2 = .ok (.iconst 0, 1) := by decide +kernel
theorem dX12_power_3 : decode cX12_power 3 = .ok (.istore_n 3, 1) := by decide +kernel
theorem dX12_power_4 : decode cX12_power 4 = .ok (.iload_n 3, 1) := by decide +kernel
theorem dX12_power_5 : decode cX12_power 5 = .ok (.iload_n 1, 1) := by decide +kernel
theorem dX12_power_6 : decode cX12_power 6 = .ok (.if_icmp .ge 13, 3) := by decide +kernel
theorem dX12_power_9 : decode cX12_power 9 = .ok (.iload_n 2, 1) := by decide +kernel
theorem dX12_power_10 : decode cX12_power 10 = .ok (.iload_n 0, 1) := by decide +kernel
theorem dX12_power_11 : decode cX12_power 11 = .ok (.imul, 1) := by decide +kernel
theorem dX12_power_12 : decode cX12_power 12 = .ok (.istore_n 2, 1) := by decide +kernel
theorem dX12_power_13 : decode cX12_power 13 = .ok (.iinc 3 1, 3) := by decide +kernel
theorem dX12_power_16 : decode cX12_power 16 = .ok (.goto (-12), 3) := by decide +kernel
theorem dX12_power_19 : decode cX12_power 19 = .ok (.iload_n 2, 1) := by decide +kernel
theorem dX12_power_20 : decode cX12_power 20 = .ok (.ireturn, 1) := by decide +kernel
theorem dX12_codeOf_0 : decode cX12_codeOf 0 = .ok (.iconst 0, 1) := by decide +kernel
theorem dX12_codeOf_1 : decode cX12_codeOf 1 = .ok (.istore_n 3, 1) := by decide +kernel
theorem dX12_codeOf_2 : decode cX12_codeOf 2 = .ok (.iload_n 2, 1) := by decide +kernel
theorem dX12_codeOf_3 : decode cX12_codeOf 3 = .ok (.iconst 1, 1) := by decide +kernel
theorem dX12_codeOf_4 : decode cX12_codeOf 4 = .ok (.isub, 1) := by decide +kernel
theorem dX12_codeOf_5 : decode cX12_codeOf 5 = .ok (.istore 4, 2) := by decide +kernel
theorem dX12_codeOf_7 : decode cX12_codeOf 7 = .ok (.iload 4, 2) := by decide +kernel
theorem dX12_codeOf_9 : decode cX12_codeOf 9 = .ok (.ifCond .lt 21, 3) := by decide +kernel
theorem dX12_codeOf_12 : decode cX12_codeOf 12 = .ok (.iload_n 3, 1) := by decide +kernel
theorem dX12_codeOf_13 : decode cX12_codeOf 13 = .ok (.aload_n 0, 1) := by decide +kernel
theorem dX12_codeOf_14 : decode cX12_codeOf 14 = .ok (.getfield 11, 3) := by decide +kernel
theorem dX12_codeOf_17 : decode cX12_codeOf 17 = .ok (.imul, 1) := by decide +kernel
theorem dX12_codeOf_18 : decode cX12_codeOf 18 = .ok (.aload_n 1, 1) := by decide +kernel
theorem dX12_codeOf_19 : decode cX12_codeOf 19 = .ok (.iload 4, 2) := by decide +kernel
theorem dX12_codeOf_21 : decode cX12_codeOf 21 = .ok (.iaload, 1) := by decide +kernel
theorem dX12_codeOf_22 : decode cX12_codeOf 22 = .ok (.iadd, 1) := by decide +kernel
theorem dX12_codeOf_23 : decode cX12_codeOf 23 = .ok (.istore_n 3, 1) := by decide +kernel
theorem dX12_codeOf_24 : decode cX12_codeOf 24 = .ok (.iinc 4 (-1), 3) := by decide +kernel
theorem dX12_codeOf_27 : decode cX12_codeOf 27 = .ok (.goto (-20), 3) := by decide +kernel
theorem dX12_codeOf_30 : decode cX12_codeOf 30 = .ok (.iload_n 3, 1) := by decide +kernel
theorem dX12_codeOf_31 : decode cX12_codeOf 31 = .ok (.ireturn, 1) := by decide +kernel
theorem dX12_restBy_0 : decode cX12_restBy 0 = .ok (.iload_n 2, 1) := by decide +kernel
theorem dX12_restBy_1 : decode cX12_restBy 1 = .ok (.istore 5, 2) := by decide +kernel
theorem dX12_restBy_3 : decode cX12_restBy 3 = .ok (.iload 5, 2) := by decide +kernel
theorem dX12_restBy_5 : decode cX12_restBy 5 = .ok (.iload 4, 2) := by decide +kernel
theorem dX12_restBy_7 : decode cX12_restBy 7 = .ok (.if_icmp .lt 69, 3) := by decide +kernel
theorem dX12_restBy_10 : decode cX12_restBy 10 = .ok (.aload_n 1, 1) := by decide +kernel
theorem dX12_restBy_11 : decode cX12_restBy 11 = .ok (.iload 5, 2) := by decide +kernel
theorem dX12_restBy_13 : decode cX12_restBy 13 = .ok (.iaload, 1) := by decide +kernel
theorem dX12_restBy_14 : decode cX12_restBy 14 = .ok (.istore 6, 2) := by decide +kernel
theorem dX12_restBy_16 : decode cX12_restBy 16 = .ok (.iconst 0, 1) := by decide +kernel
theorem dX12_restBy_17 : decode cX12_restBy 17 = .ok (.istore 7, 2) := by decide +kernel
theorem dX12_restBy_19 : decode cX12_restBy 19 = .ok (.iload 7, 2) := by decide +kernel
theorem dX12_restBy_21 : decode cX12_restBy 21 = .ok (.iload 4, 2) := by decide +kernel
theorem dX12_restBy_23 : decode cX12_restBy 23 = .ok (.if_icmp .gt 47, 3) := by decide +kernel
theorem dX12_restBy_26 : decode cX12_restBy 26 = .ok (.aload_n 1, 1) := by decide +kernel
theorem dX12_restBy_27 : decode cX12_restBy 27 = .ok (.iload 5, 2) := by decide +kernel
theorem dX12_restBy_29 : decode cX12_restBy 29 = .ok (.iload 4, 2) := by decide +kernel
theorem dX12_restBy_31 : decode cX12_restBy 31 = .ok (.isub, 1) := by decide +kernel
theorem dX12_restBy_32 : decode cX12_restBy 32 = .ok (.iload 7, 2) := by decide +kernel
theorem dX12_restBy_34 : decode cX12_restBy 34 = .ok (.iadd, 1) := by decide +kernel
theorem dX12_restBy_35 : decode cX12_restBy 35 = .ok (.aload_n 1, 1) := by decide +kernel
theorem dX12_restBy_36 : decode cX12_restBy 36 = .ok (.iload 5, 2) := by decide +kernel
theorem dX12_restBy_38 : decode cX12_restBy 38 = .ok (.iload 4, 2) := by decide +kernel
theorem dX12_restBy_40 : decode cX12_restBy 40 = .ok (.isub, 1) := by decide +kernel
theorem dX12_restBy_41 : decode cX12_restBy 41 = .ok (.iload 7, 2) := by decide +kernel
theorem dX12_restBy_43 : decode cX12_restBy 43 = .ok (.iadd, 1) := by decide +kernel
theorem dX12_restBy_44 : decode cX12_restBy 44 = .ok (.iaload, 1) := by decide +kernel
theorem dX12_restBy_45 : decode cX12_restBy 45 = .ok (.aload_n 0, 1) := by decide +kernel
theorem dX12_restBy_46 : decode cX12_restBy 46 = .ok (.getfield 11, 3) := by decide +kernel
theorem dX12_restBy_49 : decode cX12_restBy 49 = .ok (.iload 6, 2) := by decide +kernel
theorem dX12_restBy_51 : decode cX12_restBy 51 = .ok (.isub, 1) := by decide +kernel
theorem dX12_restBy_52 : decode cX12_restBy 52 = .ok (.aload_n 3, 1) := by decide +kernel
theorem dX12_restBy_53 : decode cX12_restBy 53 = .ok (.iload 7, 2) := by decide +kernel
theorem dX12_restBy_55 : decode cX12_restBy 55 = .ok (.iaload, 1) := by decide +kernel
theorem dX12_restBy_56 : decode cX12_restBy 56 = .ok (.imul, 1) := by decide +kernel
theorem dX12_restBy_57 : decode cX12_restBy 57 = .ok (.iadd, 1) := by decide +kernel
theorem dX12_restBy_58 : decode cX12_restBy 58 = .ok (.aload_n 0, 1) := by decide +kernel
theorem dX12_restBy_59 : decode cX12_restBy 59 = .ok (.getfield 11, 3) := by decide +kernel
