theorem dX0_init_0 : decode cX0_init 0 = .ok (.aload_n 0, 1) := by decide +kernel
theorem dX0_init_1 : decode cX0_init 1 = .ok (.invokespecial 3, 3) := by decide +kernel
theorem dX0_init_4 : decode cX0_init 4 = .ok (.aload_n 0, 1) := by decide +kernel
theorem dX0_init_5 : decode cX0_init 5 = .ok (.bipush 6, 2) := by decide +kernel
theorem dX0_init_7 : decode cX0_init 7 = .ok (.bipush 6, 2) := by decide +kernel
theorem dX0_init_9 : decode cX0_init 9 = .ok (.multianewarray 9 2, 4) := by decide +kernel
theorem dX0_init_13 : decode cX0_init 13 = .ok (.putfield 11, 3) := by decide +kernel
theorem dX0_init_16 : decode cX0_init 16 = .ok (.aload_n 0, 1) := by decide +kernel
theorem dX0_init_17 : decode cX0_init 17 = .ok (.aconst_null, 1) := by decide +kernel
theorem dX0_init_18 : decode cX0_init 18 = .ok (.putfield 16, 3) := by decide +kernel
theorem dX0_init_21 : decode cX0_init 21 = .ok (.aload_n 0, 1) := by decide +kernel
theorem dX0_init_22 : decode cX0_init 22 = .ok (.bipush 6, 2) := by decide +kernel
theorem dX0_init_24 : decode cX0_init 24 = .ok (.bipush 6, 2) := by decide +kernel
theorem dX0_init_26 : decode cX0_init 26 = .ok (.multianewarray 9 2, 4) := by decide +kernel
theorem dX0_init_30 : decode cX0_init 30 = .ok (.putfield 20, 3) := by decide +kernel
theorem dX0_init_33 : decode cX0_init 33 = .ok (.aload_n 0, 1) := by decide +kernel
theorem dX0_init_34 : decode cX0_init 34 = .ok (.bipush 6, 2) := by decide +kernel
theorem dX0_init_36 : decode cX0_init 36 = .ok (.newarray .int, 2) := by decide +kernel
theorem dX0_init_38 : decode cX0_init 38 = .ok (.putfield 23, 3) := by decide +kernel
theorem dX0_init_41 : decode cX0_init 41 = .ok (.aload_n 0, 1) := by decide +kernel
theorem dX0_init_42 : decode cX0_init 42 = .ok (.bipush 6, 2) := by decide +kernel
theorem dX0_init_44 : decode cX0_init 44 = .ok (.newarray .int, 2) := by decide +kernel
theorem dX0_init_46 : decode cX0_init 46 = .ok (.putfield 27, 3) := by decide +kernel
theorem dX0_init_49 : decode cX0_init 49 = .ok (.aload_n 0, 1) := by decide +kernel
theorem dX0_init_50 : decode cX0_init 50 = .ok (.bipush 6, 2) := by decide +kernel
theorem dX0_init_52 : decode cX0_init 52 = .ok (.newarray .int, 2) := by decide +kernel
theorem dX0_init_54 : decode cX0_init 54 = .ok (.putfield 30, 3) := by decide +kernel
theorem dX0_init_57 : decode cX0_init 57 = .ok (.aload_n 0, 1) := by decide +kernel
theorem dX0_init_58 : decode cX0_init 58 = .ok (.bipush 6, 2) := by decide +kernel
theorem dX0_init_60 : decode cX0_init 60 = .ok (.newarray .int, 2) := by decide +kernel
theorem dX0_init_62 : decode cX0_init 62 = .ok (.putfield 33, 3) := by decide +kernel
theorem dX0_init_65 : decode cX0_init 65 = .ok (.aload_n 0, 1) := by decide +kernel
theorem dX0_init_66 : decode cX0_init 66 = .ok (.iconst 0, 1) := by decide +kernel
theorem dX0_init_67 : decode cX0_init 67 = .ok (.putfield 36, 3) := by decide +kernel
theorem dX0_init_70 : decode cX0_init 70 = .ok (.aload_n 0, 1) := by decide +kernel
theorem dX0_init_71 : decode cX0_init 71 = .ok (.aload_n 1, 1) := by decide +kernel
theorem dX0_init_72 : decode cX0_init 72 = .ok (.putfield 40, 3) := by decide +kernel
theorem dX0_init_75 : decode cX0_init 75 = .ok (.aload_n 0, 1) := by decide +kernel
theorem dX0_init_76 : decode cX0_init 76 = .ok (.aload_n 2, 1) := by decide +kernel
theorem dX0_init_77 : decode cX0_init 77 = .ok (.putfield 44, 3) := by decide +kernel
theorem dX0_init_80 : decode cX0_init 80 = .ok (.aload_n 0, 1) := by decide +kernel
theorem dX0_init_81 : decode cX0_init 81 = .ok (.aload_n 1, 1) := by decide +kernel
theorem dX0_init_82 : decode cX0_init 82 = .ok (.getfield 48, 3) := by decide +kernel
theorem dX0_init_85 : decode cX0_init 85 = .ok (.putfield 53, 3) := by decide +kernel
theorem dX0_init_88 : decode cX0_init 88 = .ok (.aload_n 0, 1) := by decide +kernel
theorem dX0_init_89 : decode cX0_init 89 = .ok (.aload_n 1, 1) := by decide +kernel
theorem dX0_init_90 : decode cX0_init 90 = .ok (.getfield 54, 3) := by decide +kernel
theorem dX0_init_93 : decode cX0_init 93 = .ok (.putfield 57, 3) := by decide +kernel
theorem dX0_init_96 : decode cX0_init 96 = .ok (.return_, 1) := by decide +kernel
set_option maxRecDepth 20000 in
theorem ggX0_imageOf_X0_actBy : GoodIn wsX0_imageOf wsX0_actBy := goodIn_r _ [8, 9, 10, 1, 11, 12, 13, 14, 15, 16, 17, 18, 19, 20, 21, 22, 23, 24, 25, 26, 27, 28, 29, 30, 31, 32, 33, 34, 35, 36, 37, 38, 39, 40, 41, 42, 43, 44, 72, 73, 74, 75, 76, 77, 78, 79, 80, 81, 82, 83, 84, 85, 86, 87, 88, 89, 90, 91, 92, 93, 94, 95, 96, 97, 98, 99, 100, 101, 102, 103, 104, 105, 106, 107, 108, 109] (by decide +kernel) (by decide +kernel)
set_option maxRecDepth 20000 in
theorem gX0_imageOf_X0_actBy : GoodIn wsX0_imageOf (wsV RX0 58 RX0 yX0_actBy wsX0_actBy) := goodIn_app (goodIn_of _ (by decide +kernel)) ggX0_imageOf_X0_actBy
set_option maxRecDepth 20000 in
theorem ggX0_imageOf_X2_split : GoodIn wsX0_imageOf wsX2_split := goodIn_r _ [44, 24, 26, 84, 85, 86, 87, 88, 89, 90, 91] (by decide +kernel) (by decide +kernel)
set_option maxRecDepth 20000 in
theorem gX0_imageOf_X2_split : GoodIn wsX0_imageOf (wsV RX0 62 RX2 yX2_split wsX2_split) := goodIn_app (goodIn_of _ (by decide +kernel)) ggX0_imageOf_X2_split
set_option maxRecDepth 20000 in
theorem ggX0_imageOf_X0_follow : GoodIn wsX0_imageOf wsX0_follow := goodIn_r _ [48, 3, 1, 10, 2, 49, 50, 51, 52, 53, 54, 55, 56, 18, 57, 58, 59, 60, 61, 7, 62, 63, 14, 64, 65, 66, 67, 26, 72, 73, 74, 75, 76, 77, 78, 79, 80, 81, 82, 83, 84, 85, 86, 87, 88, 89, 90, 91] (by decide +kernel) (by decide +kernel)
set_option maxRecDepth 20000 in
theorem gX0_imageOf_X0_follow : GoodIn wsX0_imageOf (wsV RX0 66 RX0 yX0_follow wsX0_follow) := goodIn_app (goodIn_of _ (by decide +kernel)) ggX0_imageOf_X0_follow
set_option maxRecDepth 20000 in
theorem ggX0_imageOf_X2_packed : GoodIn wsX0_imageOf wsX2_packed := goodIn_r _ [71, 24, 26, 84, 85, 86, 87, 88, 89, 90, 91] (by decide +kernel) (by decide +kernel)
set_option maxRecDepth 20000 in
theorem gX0_imageOf_X2_packed : GoodIn wsX0_imageOf (wsV RX0 70 RX2 yX2_packed wsX2_packed) := goodIn_app (goodIn_of _ (by decide +kernel)) ggX0_imageOf_X2_packed
theorem dX0_imageOf_0 : decode cX0_imageOf 0 = .ok (.aload_n 0, 1) := by decide +kernel
theorem dX0_imageOf_1 : decode cX0_imageOf 1 = .ok (.aload_n 1, 1) := by decide +kernel
theorem dX0_imageOf_2 : decode cX0_imageOf 2 = .ok (.invokevirtual 58, 3) := by decide +kernel
theorem dX0_imageOf_5 : decode cX0_imageOf 5 = .ok (.aload_n 0, 1) := by decide +kernel
theorem dX0_imageOf_6 : decode cX0_imageOf 6 = .ok (.getfield 40, 3) := by decide +kernel
theorem dX0_imageOf_9 : decode cX0_imageOf 9 = .ok (.iload_n 3, 1) := by decide +kernel
theorem dX0_imageOf_10 : decode cX0_imageOf 10 = .ok (.aload_n 0, 1) := by decide +kernel
theorem dX0_imageOf_11 : decode cX0_imageOf 11 = .ok (.getfield 27, 3) := by decide +kernel
theorem dX0_imageOf_14 : decode cX0_imageOf 14 = .ok (.invokevirtual 62, 3) := by decide +kernel
theorem dX0_imageOf_17 : decode cX0_imageOf 17 = .ok (.aload_n 0, 1) := by decide +kernel
theorem dX0_imageOf_18 : decode cX0_imageOf 18 = .ok (.iload_n 2, 1) := by decide +kernel
theorem dX0_imageOf_19 : decode cX0_imageOf 19 = .ok (.invokevirtual 66, 3) := by decide +kernel
theorem dX0_imageOf_22 : decode cX0_imageOf 22 = .ok (.aload_n 0, 1) := by decide +kernel
theorem dX0_imageOf_23 : decode cX0_imageOf 23 = .ok (.getfield 40, 3) := by decide +kernel
theorem dX0_imageOf_26 : decode cX0_imageOf 26 = .ok (.aload_n 0, 1) := by decide +kernel
theorem dX0_imageOf_27 : decode cX0_imageOf 27 = .ok (.getfield 23, 3) := by decide +kernel
theorem dX0_imageOf_30 : decode cX0_imageOf 30 = .ok (.invokevirtual 70, 3) := by decide +kernel
theorem dX0_imageOf_33 : decode cX0_imageOf 33 = .ok (.ireturn, 1) := by decide +kernel
set_option maxRecDepth 20000 in
theorem ggX0_orderOf_X0_actBy : GoodIn wsX0_orderOf wsX0_actBy := goodIn_r _ [9, 10, 4, 1, 11, 12, 13, 14, 15, 16, 17, 18, 19, 20, 21, 22, 23, 24, 25, 26, 27, 28, 29, 30, 31, 32, 33, 34, 35, 36, 37, 38, 39, 40, 41, 42, 43, 44, 113, 114, 115, 116, 117, 118, 119, 120, 121, 122, 123, 124, 125, 126, 127, 128, 129, 130, 131, 132, 133, 134, 135, 136, 137, 138, 139, 140, 141, 142, 143, 144, 145, 146, 147, 148, 149, 150] (by decide +kernel) (by decide +kernel)
set_option maxRecDepth 20000 in
theorem gX0_orderOf_X0_actBy : GoodIn wsX0_orderOf (wsV RX0 58 RX0 yX0_actBy wsX0_actBy) := goodIn_app (goodIn_of _ (by decide +kernel)) ggX0_orderOf_X0_actBy
set_option maxRecDepth 20000 in
theorem ggX0_orderOf_X2_split : GoodIn wsX0_orderOf wsX2_split := goodIn_r _ [44, 24, 26, 125, 126, 127, 128, 129, 130, 131, 132] (by decide +kernel) (by decide +kernel)
set_option maxRecDepth 20000 in
theorem gX0_orderOf_X2_split : GoodIn wsX0_orderOf (wsV RX0 62 RX2 yX2_split wsX2_split) := goodIn_app (goodIn_of _ (by decide +kernel)) ggX0_orderOf_X2_split
set_option maxRecDepth 20000 in
theorem ggX0_orderOf_X6_begin : GoodIn wsX0_orderOf wsX6_begin := goodIn_r _ [49, 50, 51, 52, 53, 54, 55, 56, 151, 152, 153, 154, 155, 156, 157, 158, 159, 160] (by decide +kernel) (by decide +kernel)
set_option maxRecDepth 20000 in
theorem gX0_orderOf_X6_begin : GoodIn wsX0_orderOf (wsV RX0 74 RX6 yX6_begin wsX6_begin) := goodIn_app (goodIn_of _ (by decide +kernel)) ggX0_orderOf_X6_begin
set_option maxRecDepth 20000 in
theorem ggX0_orderOf_X0_relationOfPoint : GoodIn wsX0_orderOf wsX0_relationOfPoint := goodIn_r _ [60, 4, 3, 2, 61, 62, 63, 48, 64, 65, 66, 67, 68, 69, 70, 54, 71, 72, 73, 74, 75, 56, 76, 55, 77, 78, 79, 80, 81, 82, 83, 84, 85, 86, 87, 88, 89, 90, 91, 92, 93, 94, 95, 96, 97, 98, 99, 100, 101, 102, 103, 104, 105, 106, 107, 108, 8, 109, 110, 14, 111, 112, 113, 114, 115, 116, 117, 118, 119, 120, 121, 122, 123, 124, 151, 152, 153, 154, 155, 156, 157, 158, 159, 160, 125, 126, 127, 128, 129, 130, 131, 132] (by decide +kernel) (by decide +kernel)
set_option maxRecDepth 20000 in
theorem gX0_orderOf_X0_relationOfPoint : GoodIn wsX0_orderOf (wsV RX0 79 RX0 yX0_relationOfPoint wsX0_relationOfPoint) := goodIn_app (goodIn_of _ (by decide +kernel)) ggX0_orderOf_X0_relationOfPoint
theorem dX0_orderOf_0 : decode cX0_orderOf 0 = .ok (.aload_n 0, 1) := by decide +kernel
theorem dX0_orderOf_1 : decode cX0_orderOf 1 = .ok (.aload_n 1, 1) := by decide +kernel
theorem dX0_orderOf_2 : decode cX0_orderOf 2 = .ok (.invokevirtual 58, 3) := by decide +kernel
theorem dX0_orderOf_5 : decode cX0_orderOf 5 = .ok (.aload_n 0, 1) := by decide +kernel
theorem dX0_orderOf_6 : decode cX0_orderOf 6 = .ok (.getfield 40, 3) := by decide +kernel
theorem dX0_orderOf_9 : decode cX0_orderOf 9 = .ok (.iload_n 2, 1) := by decide +kernel
theorem dX0_orderOf_10 : decode cX0_orderOf 10 = .ok (.aload_n 0, 1) := by decide +kernel
theorem dX0_orderOf_11 : decode cX0_orderOf 11 = .ok (.getfield 23, 3) := by decide +kernel
theorem dX0_orderOf_14 : decode cX0_orderOf 14 = .ok (.invokevirtual 62, 3) := by decide +kernel
theorem dX0_orderOf_17 : decode cX0_orderOf 17 = .ok (.aload_n 0, 1) := by decide +kernel
theorem dX0_orderOf_18 : decode cX0_orderOf 18 = .ok (.getfield 44, 3) := by decide +kernel
theorem dX0_orderOf_21 : decode cX0_orderOf 21 = .ok (.aload_n 0, 1) := by decide +kernel
theorem dX0_orderOf_22 : decode cX0_orderOf 22 = .ok (.getfield 57, 3) := by decide +kernel
theorem dX0_orderOf_25 : decode cX0_orderOf 25 = .ok (.invokevirtual 74, 3) := by decide +kernel
theorem dX0_orderOf_28 : decode cX0_orderOf 28 = .ok (.aload_n 0, 1) := by decide +kernel
theorem dX0_orderOf_29 : decode cX0_orderOf 29 = .ok (.invokevirtual 79, 3) := by decide +kernel
theorem dX0_orderOf_32 : decode cX0_orderOf 32 = .ok (.ireturn, 1) := by decide +kernel
set_option maxRecDepth 20000 in
theorem ggX0_wholeOf_X0_actBy : GoodIn wsX0_wholeOf wsX0_actBy := goodIn_r _ [10, 11, 2, 3, 4, 12, 13, 14, 15, 16, 17, 18, 19, 20, 21, 22, 23, 24, 25, 26, 27, 28, 29, 30, 31, 32, 33, 34, 35, 36, 37, 38, 39, 40, 41, 42, 43, 44, 126, 127, 128, 129, 130, 131, 132, 133, 134, 135, 136, 137, 138, 139, 140, 141, 142, 143, 144, 145, 146, 147, 148, 149, 150, 151, 152, 153, 154, 155, 156, 157, 158, 159, 160, 161, 162, 163] (by decide +kernel) (by decide +kernel)
set_option maxRecDepth 20000 in
theorem gX0_wholeOf_X0_actBy : GoodIn wsX0_wholeOf (wsV RX0 58 RX0 yX0_actBy wsX0_actBy) := goodIn_app (goodIn_of _ (by decide +kernel)) ggX0_wholeOf_X0_actBy
set_option maxRecDepth 20000 in
theorem ggX0_wholeOf_X6_begin : GoodIn wsX0_wholeOf wsX6_begin := goodIn_r _ [49, 50, 51, 52, 53, 54, 55, 56, 164, 165, 166, 167, 168, 169, 170, 171, 172, 173] (by decide +kernel) (by decide +kernel)
set_option maxRecDepth 20000 in
theorem gX0_wholeOf_X6_begin : GoodIn wsX0_wholeOf (wsV RX0 74 RX6 yX6_begin wsX6_begin) := goodIn_app (goodIn_of _ (by decide +kernel)) ggX0_wholeOf_X6_begin
set_option maxRecDepth 20000 in
theorem ggX0_wholeOf_X2_split : GoodIn wsX0_wholeOf wsX2_split := goodIn_r _ [44, 24, 26, 138, 139, 140, 141, 142, 143, 144, 145] (by decide +kernel) (by decide +kernel)
set_option maxRecDepth 20000 in
theorem gX0_wholeOf_X2_split : GoodIn wsX0_wholeOf (wsV RX0 62 RX2 yX2_split wsX2_split) := goodIn_app (goodIn_of _ (by decide +kernel)) ggX0_wholeOf_X2_split
set_option maxRecDepth 20000 in
theorem ggX0_wholeOf_X6_forget : GoodIn wsX0_wholeOf wsX6_forget := goodIn_r _ [60, 56, 55, 61, 62, 63, 64, 65, 164, 165, 166, 167, 168, 169, 170, 171, 172, 173] (by decide +kernel) (by decide +kernel)
set_option maxRecDepth 20000 in
theorem gX0_wholeOf_X6_forget : GoodIn wsX0_wholeOf (wsV RX0 86 RX6 yX6_forget wsX6_forget) := goodIn_app (goodIn_of _ (by decide +kernel)) ggX0_wholeOf_X6_forget
set_option maxRecDepth 20000 in
theorem ggX0_wholeOf_X0_relationOfPoint : GoodIn wsX0_wholeOf wsX0_relationOfPoint := goodIn_r _ [69, 2, 1, 5, 70, 71, 72, 48, 73, 74, 75, 76, 77, 78, 79, 54, 80, 81, 82, 83, 84, 56, 85, 55, 62, 63, 64, 65, 86, 87, 88, 89, 90, 91, 92, 61, 93, 94, 95, 96, 97, 98, 99, 100, 101, 102, 103, 104, 105, 106, 107, 108, 109, 110, 111, 112, 9, 113, 114, 14, 115, 116, 126, 127, 128, 129, 130, 131, 132, 133, 134, 135, 136, 137, 164, 165, 166, 167, 168, 169, 170, 171, 172, 173, 138, 139, 140, 141, 142, 143, 144, 145] (by decide +kernel) (by decide +kernel)
set_option maxRecDepth 20000 in
theorem gX0_wholeOf_X0_relationOfPoint : GoodIn wsX0_wholeOf (wsV RX0 79 RX0 yX0_relationOfPoint wsX0_relationOfPoint) := goodIn_app (goodIn_of _ (by decide +kernel)) ggX0_wholeOf_X0_relationOfPoint
set_option maxRecDepth 20000 in
theorem ggX0_wholeOf_X2_joined : GoodIn wsX0_wholeOf wsX2_joined := goodIn_r _ [120, 26, 121, 122, 123, 124, 18, 125, 138, 139, 140, 141, 142, 143, 144, 145] (by decide +kernel) (by decide +kernel)
set_option maxRecDepth 20000 in
theorem gX0_wholeOf_X2_joined : GoodIn wsX0_wholeOf (wsV RX0 89 RX2 yX2_joined wsX2_joined) := goodIn_app (goodIn_of _ (by decide +kernel)) ggX0_wholeOf_X2_joined
theorem dX0_wholeOf_0 : decode cX0_wholeOf 0 = .ok (.aload_n 0, 1) := by decide +kernel
theorem dX0_wholeOf_1 : decode cX0_wholeOf 1 = .ok (.aload_n 1, 1) := by decide +kernel
theorem dX0_wholeOf_2 : decode cX0_wholeOf 2 = .ok (.invokevirtual 58, 3) := by decide +kernel
theorem dX0_wholeOf_5 : decode cX0_wholeOf 5 = .ok (.aload_n 0, 1) := by decide +kernel
theorem dX0_wholeOf_6 : decode cX0_wholeOf 6 = .ok (.getfield 44, 3) := by decide +kernel
theorem dX0_wholeOf_9 : decode cX0_wholeOf 9 = .ok (.aload_n 0, 1) := by decide +kernel
theorem dX0_wholeOf_10 : decode cX0_wholeOf 10 = .ok (.getfield 57, 3) := by decide +kernel
theorem dX0_wholeOf_13 : decode cX0_wholeOf 13 = .ok (.invokevirtual 74, 3) := by decide +kernel
theorem dX0_wholeOf_16 : decode cX0_wholeOf 16 = .ok (.iconst 1, 1) := by decide +kernel
theorem dX0_wholeOf_17 : decode cX0_wholeOf 17 = .ok (.istore_n 2, 1) := by decide +kernel
theorem dX0_wholeOf_18 : decode cX0_wholeOf 18 = .ok (.iconst 0, 1) := by decide +kernel
theorem dX0_wholeOf_19 : decode cX0_wholeOf 19 = .ok (.istore_n 3, 1) := by decide +kernel
theorem dX0_wholeOf_20 : decode cX0_wholeOf 20 = .ok (.iload_n 3, 1) := by decide +kernel
theorem dX0_wholeOf_21 : decode cX0_wholeOf 21 = .ok (.aload_n 0, 1) := by decide +kernel
theorem dX0_wholeOf_22 : decode cX0_wholeOf 22 = .ok (.getfield 57, 3) := by decide +kernel
theorem dX0_wholeOf_25 : decode cX0_wholeOf 25 = .ok (.if_icmp .ge 49, 3) := by decide +kernel
theorem dX0_wholeOf_28 : decode cX0_wholeOf 28 = .ok (.aload_n 0, 1) := by decide +kernel
theorem dX0_wholeOf_29 : decode cX0_wholeOf 29 = .ok (.getfield 40, 3) := by decide +kernel
theorem dX0_wholeOf_32 : decode cX0_wholeOf 32 = .ok (.aload_n 0, 1) := by decide +kernel
theorem dX0_wholeOf_33 : decode cX0_wholeOf 33 = .ok (.getfield 40, 3) := by decide +kernel
theorem dX0_wholeOf_36 : decode cX0_wholeOf 36 = .ok (.getfield 83, 3) := by decide +kernel
theorem dX0_wholeOf_39 : decode cX0_wholeOf 39 = .ok (.iload_n 3, 1) := by decide +kernel
theorem dX0_wholeOf_40 : decode cX0_wholeOf 40 = .ok (.iaload, 1) := by decide +kernel
theorem dX0_wholeOf_41 : decode cX0_wholeOf 41 = .ok (.aload_n 0, 1) := by decide +kernel
theorem dX0_wholeOf_42 : decode cX0_wholeOf 42 = .ok (.getfield 23, 3) := by decide +kernel
theorem dX0_wholeOf_45 : decode cX0_wholeOf 45 = .ok (.invokevirtual 62, 3) := by decide +kernel
theorem dX0_wholeOf_48 : decode cX0_wholeOf 48 = .ok (.aload_n 0, 1) := by decide +kernel
theorem dX0_wholeOf_49 : decode cX0_wholeOf 49 = .ok (.getfield 44, 3) := by decide +kernel
theorem dX0_wholeOf_52 : decode cX0_wholeOf 52 = .ok (.invokevirtual 86, 3) := by decide +kernel
theorem dX0_wholeOf_55 : decode cX0_wholeOf 55 = .ok (.aload_n 0, 1) := by decide +kernel
theorem dX0_wholeOf_56 : decode cX0_wholeOf 56 = .ok (.getfield 40, 3) := by decide +kernel
theorem dX0_wholeOf_59 : decode cX0_wholeOf 59 = .ok (.iload_n 2, 1) := by decide +kernel
theorem dX0_wholeOf_60 : decode cX0_wholeOf 60 = .ok (.aload_n 0, 1) := by decide +kernel
theorem dX0_wholeOf_61 : decode cX0_wholeOf 61 = .ok (.invokevirtual 79, 3) := by decide +kernel
theorem dX0_wholeOf_64 : decode cX0_wholeOf 64 = .ok (.invokevirtual 89, 3) := by decide +kernel
theorem dX0_wholeOf_67 : decode cX0_wholeOf 67 = .ok (.istore_n 2, 1) := by decide +kernel
theorem dX0_wholeOf_68 : decode cX0_wholeOf 68 = .ok (.iinc 3 1, 3) := by decide +kernel
theorem dX0_wholeOf_71 : decode cX0_wholeOf 71 = .ok (.goto (-51), 3) := by decide +kernel
theorem dX0_wholeOf_74 : decode cX0_wholeOf 74 = .ok (.iload_n 2, 1) := by decide +kernel
theorem dX0_wholeOf_75 : decode cX0_wholeOf 75 = .ok (.ireturn, 1) := by decide +kernel
set_option maxRecDepth 20000 in
theorem ggX0_leastOf_X0_actBy : GoodIn wsX0_leastOf wsX0_actBy := goodIn_r _ [10, 11, 1, 2, 3, 12, 13, 14, 15, 16, 17, 18, 19, 20, 21, 22, 23, 24, 25, 26, 27, 28, 29, 30, 31, 32, 33, 34, 35, 36, 37, 38, 39, 40, 41, 42, 43, 44, 109, 110, 111, 112, 113, 114, 115, 116, 117, 118, 119, 120, 121, 122, 123, 124, 125, 126, 127, 128, 129, 130, 131, 132, 133, 134, 135, 136, 137, 138, 139, 140, 141, 142, 143, 144, 145, 146] (by decide +kernel) (by decide +kernel)
set_option maxRecDepth 20000 in
theorem gX0_leastOf_X0_actBy : GoodIn wsX0_leastOf (wsV RX0 58 RX0 yX0_actBy wsX0_actBy) := goodIn_app (goodIn_of _ (by decide +kernel)) ggX0_leastOf_X0_actBy
set_option maxRecDepth 20000 in
theorem ggX0_leastOf_X2_split : GoodIn wsX0_leastOf wsX2_split := goodIn_r _ [44, 24, 26, 121, 122, 123, 124, 125, 126, 127, 128] (by decide +kernel) (by decide +kernel)
set_option maxRecDepth 20000 in
theorem gX0_leastOf_X2_split : GoodIn wsX0_leastOf (wsV RX0 62 RX2 yX2_split wsX2_split) := goodIn_app (goodIn_of _ (by decide +kernel)) ggX0_leastOf_X2_split
set_option maxRecDepth 20000 in
theorem ggX0_leastOf_X6_begin : GoodIn wsX0_leastOf wsX6_begin := goodIn_r _ [49, 50, 51, 52, 53, 54, 55, 56, 147, 148, 149, 150, 151, 152, 153, 154, 155, 156] (by decide +kernel) (by decide +kernel)
set_option maxRecDepth 20000 in
theorem gX0_leastOf_X6_begin : GoodIn wsX0_leastOf (wsV RX0 74 RX6 yX6_begin wsX6_begin) := goodIn_app (goodIn_of _ (by decide +kernel)) ggX0_leastOf_X6_begin
set_option maxRecDepth 20000 in
theorem ggX0_leastOf_X6_putNumbers : GoodIn wsX0_leastOf wsX6_putNumbers := goodIn_r _ [60, 61, 62, 63, 64, 65, 48, 66, 54, 67, 147, 148, 149, 150, 151, 152, 153, 154, 155, 156, 121, 122, 123, 124, 125, 126, 127, 128] (by decide +kernel) (by decide +kernel)
set_option maxRecDepth 20000 in
theorem gX0_leastOf_X6_putNumbers : GoodIn wsX0_leastOf (wsV RX0 93 RX6 yX6_putNumbers wsX6_putNumbers) := goodIn_app (goodIn_of _ (by decide +kernel)) ggX0_leastOf_X6_putNumbers
set_option maxRecDepth 20000 in
theorem ggX0_leastOf_X0_step : GoodIn wsX0_leastOf wsX0_step := goodIn_r _ [71, 72, 1, 14, 73, 74, 75, 76, 77, 109, 110, 111, 112, 113, 114, 115, 116, 117, 118, 119, 120] (by decide +kernel) (by decide +kernel)
set_option maxRecDepth 20000 in
theorem gX0_leastOf_X0_step : GoodIn wsX0_leastOf (wsV RX0 96 RX0 yX0_step wsX0_step) := goodIn_app (goodIn_of _ (by decide +kernel)) ggX0_leastOf_X0_step
set_option maxRecDepth 20000 in
theorem ggX0_leastOf_X6_feed : GoodIn wsX0_leastOf wsX6_feed := goodIn_r _ [81, 56, 82, 55, 54, 83, 75, 76, 77, 84, 85, 86, 48, 87, 88, 67, 89, 90, 91, 92, 93, 94, 95, 96, 97, 98, 99, 61, 100, 101, 102, 103, 104, 105, 106, 107, 108, 147, 148, 149, 150, 151, 152, 153, 154, 155, 156, 121, 122, 123, 124, 125, 126, 127, 128] (by decide +kernel) (by decide +kernel)
set_option maxRecDepth 20000 in
theorem gX0_leastOf_X6_feed : GoodIn wsX0_leastOf (wsV RX0 100 RX6 yX6_feed wsX6_feed) := goodIn_app (goodIn_of _ (by decide +kernel)) ggX0_leastOf_X6_feed
theorem dX0_leastOf_0 : decode cX0_leastOf 0 = .ok (.aload_n 0, 1) := by decide +kernel
theorem dX0_leastOf_1 : decode cX0_leastOf 1 = .ok (.aload_n 1, 1) := by decide +kernel
theorem dX0_leastOf_2 : decode cX0_leastOf 2 = .ok (.invokevirtual 58, 3) := by decide +kernel
theorem dX0_leastOf_5 : decode cX0_leastOf 5 = .ok (.iconst 0, 1) := by decide +kernel
theorem dX0_leastOf_6 : decode cX0_leastOf 6 = .ok (.istore_n 2, 1) := by decide +kernel
theorem dX0_leastOf_7 : decode cX0_leastOf 7 = .ok (.iload_n 2, 1) := by decide +kernel
theorem dX0_leastOf_8 : decode cX0_leastOf 8 = .ok (.aload_n 0, 1) := by decide +kernel
theorem dX0_leastOf_9 : decode cX0_leastOf 9 = .ok (.getfield 57, 3) := by decide +kernel
theorem dX0_leastOf_12 : decode cX0_leastOf 12 = .ok (.if_icmp .ge 31, 3) := by decide +kernel
theorem dX0_leastOf_15 : decode cX0_leastOf 15 = .ok (.aload_n 0, 1) := by decide +kernel
theorem dX0_leastOf_16 : decode cX0_leastOf 16 = .ok (.getfield 40, 3) := by decide +kernel
theorem dX0_leastOf_19 : decode cX0_leastOf 19 = .ok (.aload_n 0, 1) := by decide +kernel
theorem dX0_leastOf_20 : decode cX0_leastOf 20 = .ok (.getfield 40, 3) := by decide +kernel
theorem dX0_leastOf_23 : decode cX0_leastOf 23 = .ok (.getfield 83, 3) := by decide +kernel
theorem dX0_leastOf_26 : decode cX0_leastOf 26 = .ok (.iload_n 2, 1) := by decide +kernel
theorem dX0_leastOf_27 : decode cX0_leastOf 27 = .ok (.iaload, 1) := by decide +kernel
theorem dX0_leastOf_28 : decode cX0_leastOf 28 = .ok (.aload_n 0, 1) := by decide +kernel
theorem dX0_leastOf_29 : decode cX0_leastOf 29 = .ok (.getfield 20, 3) := by decide +kernel
theorem dX0_leastOf_32 : decode cX0_leastOf 32 = .ok (.iload_n 2, 1) := by decide +kernel
theorem dX0_leastOf_33 : decode cX0_leastOf 33 = .ok (.aaload, 1) := by decide +kernel
theorem dX0_leastOf_34 : decode cX0_leastOf 34 = .ok (.invokevirtual 62, 3) := by decide +kernel
theorem dX0_leastOf_37 : decode cX0_leastOf 37 = .ok (.iinc 2 1, 3) := by decide +kernel
theorem dX0_leastOf_40 : decode cX0_leastOf 40 = .ok (.goto (-33), 3) := by decide +kernel
theorem dX0_leastOf_43 : decode cX0_leastOf 43 = .ok (.aload_n 0, 1) := by decide +kernel
theorem dX0_leastOf_44 : decode cX0_leastOf 44 = .ok (.getfield 44, 3) := by decide +kernel
theorem dX0_leastOf_47 : decode cX0_leastOf 47 = .ok (.aload_n 0, 1) := by decide +kernel
theorem dX0_leastOf_48 : decode cX0_leastOf 48 = .ok (.getfield 57, 3) := by decide +kernel
theorem dX0_leastOf_51 : decode cX0_leastOf 51 = .ok (.aload_n 0, 1) := by decide +kernel
theorem dX0_leastOf_52 : decode cX0_leastOf 52 = .ok (.getfield 57, 3) := by decide +kernel
theorem dX0_leastOf_55 : decode cX0_leastOf 55 = .ok (.imul, 1) := by decide +kernel
theorem dX0_leastOf_56 : decode cX0_leastOf 56 = .ok (.invokevirtual 74, 3) := by decide +kernel
theorem dX0_leastOf_59 : decode cX0_leastOf 59 = .ok (.iconst 0, 1) := by decide +kernel
theorem dX0_leastOf_60 : decode cX0_leastOf 60 = .ok (.istore_n 2, 1) := by decide +kernel
theorem dX0_leastOf_61 : decode cX0_leastOf 61 = .ok (.iconst 0, 1) := by decide +kernel
theorem dX0_leastOf_62 : decode cX0_leastOf 62 = .ok (.istore_n 3, 1) := by decide +kernel
theorem dX0_leastOf_63 : decode cX0_leastOf 63 = .ok (.iload_n 3, 1) := by decide +kernel
theorem dX0_leastOf_64 : decode cX0_leastOf 64 = .ok (.aload_n 0, 1) := by decide +kernel
theorem dX0_leastOf_65 : decode cX0_leastOf 65 = .ok (.getfield 57, 3) := by decide +kernel
theorem dX0_leastOf_68 : decode cX0_leastOf 68 = .ok (.if_icmp .gt 71, 3) := by decide +kernel
theorem dX0_leastOf_71 : decode cX0_leastOf 71 = .ok (.iload_n 2, 1) := by decide +kernel
theorem dX0_leastOf_72 : decode cX0_leastOf 72 = .ok (.ifCond .ne 67, 3) := by decide +kernel
theorem dX0_leastOf_75 : decode cX0_leastOf 75 = .ok (.iconst 0, 1) := by decide +kernel
theorem dX0_leastOf_76 : decode cX0_leastOf 76 = .ok (.istore 4, 2) := by decide +kernel
theorem dX0_leastOf_78 : decode cX0_leastOf 78 = .ok (.iload 4, 2) := by decide +kernel
theorem dX0_leastOf_80 : decode cX0_leastOf 80 = .ok (.aload_n 0, 1) := by decide +kernel
theorem dX0_leastOf_81 : decode cX0_leastOf 81 = .ok (.getfield 57, 3) := by decide +kernel
theorem dX0_leastOf_84 : decode cX0_leastOf 84 = .ok (.if_icmp .ge 41, 3) := by decide +kernel
theorem dX0_leastOf_87 : decode cX0_leastOf 87 = .ok (.aload_n 0, 1) := by decide +kernel
theorem dX0_leastOf_88 : decode cX0_leastOf 88 = .ok (.getfield 44, 3) := by decide +kernel
theorem dX0_leastOf_91 : decode cX0_leastOf 91 = .ok (.iload 4, 2) := by decide +kernel
theorem dX0_leastOf_93 : decode cX0_leastOf 93 = .ok (.aload_n 0, 1) := by decide +kernel
theorem dX0_leastOf_94 : decode cX0_leastOf 94 = .ok (.getfield 57, 3) := by decide +kernel
theorem dX0_leastOf_97 : decode cX0_leastOf 97 = .ok (.imul, 1) := by decide +kernel
theorem dX0_leastOf_98 : decode cX0_leastOf 98 = .ok (.aload_n 0, 1) := by decide +kernel
theorem dX0_leastOf_99 : decode cX0_leastOf 99 = .ok (.getfield 20, 3) := by decide +kernel
theorem dX0_leastOf_102 : decode cX0_leastOf 102 = .ok (.iload 4, 2) := by decide +kernel
theorem dX0_leastOf_104 : decode cX0_leastOf 104 = .ok (.aaload, 1) := by decide +kernel
theorem dX0_leastOf_105 : decode cX0_leastOf 105 = .ok (.invokevirtual 93, 3) := by decide +kernel
theorem dX0_leastOf_108 : decode cX0_leastOf 108 = .ok (.aload_n 0, 1) := by decide +kernel
theorem dX0_leastOf_109 : decode cX0_leastOf 109 = .ok (.aload_n 0, 1) := by decide +kernel
theorem dX0_leastOf_110 : decode cX0_leastOf 110 = .ok (.getfield 20, 3) := by decide +kernel
theorem dX0_leastOf_113 : decode cX0_leastOf 113 = .ok (.iload 4, 2) := by decide +kernel
theorem dX0_leastOf_115 : decode cX0_leastOf 115 = .ok (.aaload, 1) := by decide +kernel
theorem dX0_leastOf_116 : decode cX0_leastOf 116 = .ok (.invokevirtual 96, 3) := by decide +kernel
theorem dX0_leastOf_119 : decode cX0_leastOf 119 = .ok (.iinc 4 1, 3) := by decide +kernel
theorem dX0_leastOf_122 : decode cX0_leastOf 122 = .ok (.goto (-44), 3) := by decide +kernel
theorem dX0_leastOf_125 : decode cX0_leastOf 125 = .ok (.aload_n 0, 1) := by decide +kernel
theorem dX0_leastOf_126 : decode cX0_leastOf 126 = .ok (.getfield 44, 3) := by decide +kernel
theorem dX0_leastOf_129 : decode cX0_leastOf 129 = .ok (.invokevirtual 100, 3) := by decide +kernel
theorem dX0_leastOf_132 : decode cX0_leastOf 132 = .ok (.istore_n 2, 1) := by decide +kernel
theorem dX0_leastOf_133 : decode cX0_leastOf 133 = .ok (.iinc 3 1, 3) := by decide +kernel
theorem dX0_leastOf_136 : decode cX0_leastOf 136 = .ok (.goto (-73), 3) := by decide +kernel
theorem dX0_leastOf_139 : decode cX0_leastOf 139 = .ok (.iload_n 2, 1) := by decide +kernel
theorem dX0_leastOf_140 : decode cX0_leastOf 140 = .ok (.ireturn, 1) := by decide +kernel
set_option maxRecDepth 20000 in
theorem ggX0_kernelSize_X0_actBy : GoodIn wsX0_kernelSize wsX0_actBy := goodIn_r _ [13, 14, 2, 4, 5, 15, 16, 17, 18, 19, 20, 21, 22, 23, 24, 25, 26, 27, 28, 29, 30, 31, 32, 33, 34, 35, 36, 37, 38, 39, 40, 41, 42, 43, 44, 45, 46, 47, 125, 126, 127, 128, 129, 130, 131, 132, 133, 134, 135, 136, 137, 138, 139, 140, 141, 142, 143, 144, 145, 146, 147, 148, 149, 150, 151, 152, 153, 154, 155, 156, 157, 158, 159, 160, 161, 162] (by decide +kernel) (by decide +kernel)
set_option maxRecDepth 20000 in
theorem gX0_kernelSize_X0_actBy : GoodIn wsX0_kernelSize (wsV RX0 58 RX0 yX0_actBy wsX0_actBy) := goodIn_app (goodIn_of _ (by decide +kernel)) ggX0_kernelSize_X0_actBy
set_option maxRecDepth 20000 in
theorem ggX0_kernelSize_X6_begin : GoodIn wsX0_kernelSize wsX6_begin := goodIn_r _ [52, 53, 54, 55, 56, 57, 58, 59, 163, 164, 165, 166, 167, 168, 169, 170, 171, 172] (by decide +kernel) (by decide +kernel)
set_option maxRecDepth 20000 in
theorem gX0_kernelSize_X6_begin : GoodIn wsX0_kernelSize (wsV RX0 74 RX6 yX6_begin wsX6_begin) := goodIn_app (goodIn_of _ (by decide +kernel)) ggX0_kernelSize_X6_begin
set_option maxRecDepth 20000 in
theorem ggX0_kernelSize_X2_split : GoodIn wsX0_kernelSize wsX2_split := goodIn_r _ [47, 27, 29, 137, 138, 139, 140, 141, 142, 143, 144] (by decide +kernel) (by decide +kernel)
set_option maxRecDepth 20000 in
theorem gX0_kernelSize_X2_split : GoodIn wsX0_kernelSize (wsV RX0 62 RX2 yX2_split wsX2_split) := goodIn_app (goodIn_of _ (by decide +kernel)) ggX0_kernelSize_X2_split
set_option maxRecDepth 20000 in
theorem ggX0_kernelSize_X0_follow : GoodIn wsX0_kernelSize wsX0_follow := goodIn_r _ [63, 7, 4, 2, 6, 64, 65, 66, 67, 68, 69, 70, 71, 21, 72, 73, 74, 75, 76, 12, 77, 78, 17, 79, 80, 81, 82, 29, 125, 126, 127, 128, 129, 130, 131, 132, 133, 134, 135, 136, 137, 138, 139, 140, 141, 142, 143, 144] (by decide +kernel) (by decide +kernel)
set_option maxRecDepth 20000 in
theorem gX0_kernelSize_X0_follow : GoodIn wsX0_kernelSize (wsV RX0 66 RX0 yX0_follow wsX0_follow) := goodIn_app (goodIn_of _ (by decide +kernel)) ggX0_kernelSize_X0_follow
set_option maxRecDepth 20000 in
theorem ggX0_kernelSize_X6_putNumbers : GoodIn wsX0_kernelSize wsX6_putNumbers := goodIn_r _ [86, 87, 88, 89, 90, 91, 51, 92, 57, 93, 163, 164, 165, 166, 167, 168, 169, 170, 171, 172, 137, 138, 139, 140, 141, 142, 143, 144] (by decide +kernel) (by decide +kernel)
set_option maxRecDepth 20000 in
theorem gX0_kernelSize_X6_putNumbers : GoodIn wsX0_kernelSize (wsV RX0 93 RX6 yX6_putNumbers wsX6_putNumbers) := goodIn_app (goodIn_of _ (by decide +kernel)) ggX0_kernelSize_X6_putNumbers
set_option maxRecDepth 20000 in
theorem ggX0_kernelSize_X6_feed : GoodIn wsX0_kernelSize wsX6_feed := goodIn_r _ [97, 59, 98, 58, 57, 99, 66, 67, 68, 100, 101, 102, 51, 103, 104, 93, 105, 106, 107, 108, 109, 110, 111, 112, 113, 114, 115, 87, 116, 117, 118, 119, 120, 121, 122, 123, 124, 163, 164, 165, 166, 167, 168, 169, 170, 171, 172, 137, 138, 139, 140, 141, 142, 143, 144] (by decide +kernel) (by decide +kernel)
set_option maxRecDepth 20000 in
theorem gX0_kernelSize_X6_feed : GoodIn wsX0_kernelSize (wsV RX0 100 RX6 yX6_feed wsX6_feed) := goodIn_app (goodIn_of _ (by decide +kernel)) ggX0_kernelSize_X6_feed
theorem dX0_kernelSize_0 : decode cX0_kernelSize 0 = .ok (.aload_n 0, 1) := by decide +kernel
theorem dX0_kernelSize_1 : decode cX0_kernelSize 1 = .ok (.aload_n 1, 1) := by decide +kernel
theorem dX0_kernelSize_2 : decode cX0_kernelSize 2 = .ok (.invokevirtual 58, 3) := by decide +kernel
theorem dX0_kernelSize_5 : decode cX0_kernelSize 5 = .ok (.aload_n 0, 1) := by decide +kernel
theorem dX0_kernelSize_6 : decode cX0_kernelSize 6 = .ok (.getfield 44, 3) := by decide +kernel
theorem dX0_kernelSize_9 : decode cX0_kernelSize 9 = .ok (.aload_n 0, 1) := by decide +kernel
theorem dX0_kernelSize_10 : decode cX0_kernelSize 10 = .ok (.getfield 57, 3) := by decide +kernel
theorem dX0_kernelSize_13 : decode cX0_kernelSize 13 = .ok (.invokevirtual 74, 3) := by decide +kernel
theorem dX0_kernelSize_16 : decode cX0_kernelSize 16 = .ok (.aload_n 0, 1) := by decide +kernel
theorem dX0_kernelSize_17 : decode cX0_kernelSize 17 = .ok (.iconst 0, 1) := by decide +kernel
theorem dX0_kernelSize_18 : decode cX0_kernelSize 18 = .ok (.putfield 36, 3) := by decide +kernel
theorem dX0_kernelSize_21 : decode cX0_kernelSize 21 = .ok (.iconst 0, 1) := by decide +kernel
theorem dX0_kernelSize_22 : decode cX0_kernelSize 22 = .ok (.istore_n 3, 1) := by decide +kernel
theorem dX0_kernelSize_23 : decode cX0_kernelSize 23 = .ok (.iload_n 3, 1) := by decide +kernel
theorem dX0_kernelSize_24 : decode cX0_kernelSize 24 = .ok (.aload_n 0, 1) := by decide +kernel
theorem dX0_kernelSize_25 : decode cX0_kernelSize 25 = .ok (.getfield 57, 3) := by decide +kernel
theorem dX0_kernelSize_28 : decode cX0_kernelSize 28 = .ok (.if_icmp .ge 81, 3) := by decide +kernel
theorem dX0_kernelSize_31 : decode cX0_kernelSize 31 = .ok (.aload_n 0, 1) := by decide +kernel
theorem dX0_kernelSize_32 : decode cX0_kernelSize 32 = .ok (.getfield 40, 3) := by decide +kernel
theorem dX0_kernelSize_35 : decode cX0_kernelSize 35 = .ok (.aload_n 0, 1) := by decide +kernel
theorem dX0_kernelSize_36 : decode cX0_kernelSize 36 = .ok (.getfield 40, 3) := by decide +kernel
theorem dX0_kernelSize_39 : decode cX0_kernelSize 39 = .ok (.getfield 83, 3) := by decide +kernel
theorem dX0_kernelSize_42 : decode cX0_kernelSize 42 = .ok (.iload_n 3, 1) := by decide +kernel
theorem dX0_kernelSize_43 : decode cX0_kernelSize 43 = .ok (.iaload, 1) := by decide +kernel
theorem dX0_kernelSize_44 : decode cX0_kernelSize 44 = .ok (.aload_n 0, 1) := by decide +kernel
theorem dX0_kernelSize_45 : decode cX0_kernelSize 45 = .ok (.getfield 27, 3) := by decide +kernel
theorem dX0_kernelSize_48 : decode cX0_kernelSize 48 = .ok (.invokevirtual 62, 3) := by decide +kernel
theorem dX0_kernelSize_51 : decode cX0_kernelSize 51 = .ok (.aload_n 0, 1) := by decide +kernel
theorem dX0_kernelSize_52 : decode cX0_kernelSize 52 = .ok (.iload_n 2, 1) := by decide +kernel
theorem dX0_kernelSize_53 : decode cX0_kernelSize 53 = .ok (.invokevirtual 66, 3) := by decide +kernel
theorem dX0_kernelSize_56 : decode cX0_kernelSize 56 = .ok (.aload_n 0, 1) := by decide +kernel
theorem dX0_kernelSize_57 : decode cX0_kernelSize 57 = .ok (.getfield 44, 3) := by decide +kernel
theorem dX0_kernelSize_60 : decode cX0_kernelSize 60 = .ok (.iconst 0, 1) := by decide +kernel
theorem dX0_kernelSize_61 : decode cX0_kernelSize 61 = .ok (.aload_n 0, 1) := by decide +kernel
theorem dX0_kernelSize_62 : decode cX0_kernelSize 62 = .ok (.getfield 23, 3) := by decide +kernel
theorem dX0_kernelSize_65 : decode cX0_kernelSize 65 = .ok (.invokevirtual 93, 3) := by decide +kernel
theorem dX0_kernelSize_68 : decode cX0_kernelSize 68 = .ok (.aload_n 0, 1) := by decide +kernel
theorem dX0_kernelSize_69 : decode cX0_kernelSize 69 = .ok (.getfield 44, 3) := by decide +kernel
theorem dX0_kernelSize_72 : decode cX0_kernelSize 72 = .ok (.invokevirtual 100, 3) := by decide +kernel
theorem dX0_kernelSize_75 : decode cX0_kernelSize 75 = .ok (.istore 4, 2) := by decide +kernel
theorem dX0_kernelSize_77 : decode cX0_kernelSize 77 = .ok (.iload 4, 2) := by decide +kernel
theorem dX0_kernelSize_79 : decode cX0_kernelSize 79 = .ok (.ifCond .eq 24, 3) := by decide +kernel
theorem dX0_kernelSize_82 : decode cX0_kernelSize 82 = .ok (.aload_n 0, 1) := by decide +kernel
theorem dX0_kernelSize_83 : decode cX0_kernelSize 83 = .ok (.getfield 33, 3) := by decide +kernel
theorem dX0_kernelSize_86 : decode cX0_kernelSize 86 = .ok (.aload_n 0, 1) := by decide +kernel
theorem dX0_kernelSize_87 : decode cX0_kernelSize 87 = .ok (.getfield 36, 3) := by decide +kernel
theorem dX0_kernelSize_90 : decode cX0_kernelSize 90 = .ok (.iload 4, 2) := by decide +kernel
theorem dX0_kernelSize_92 : decode cX0_kernelSize 92 = .ok (.iastore, 1) := by decide +kernel
theorem dX0_kernelSize_93 : decode cX0_kernelSize 93 = .ok (.aload_n 0, 1) := by decide +kernel
theorem dX0_kernelSize_94 : decode cX0_kernelSize 94 = .ok (.dup, 1) := by decide +kernel
theorem dX0_kernelSize_95 : decode cX0_kernelSize 95 = .ok (.getfield 36, 3) := by decide +kernel
theorem dX0_kernelSize_98 : decode cX0_kernelSize 98 = .ok (.iconst 1, 1) := by decide +kernel
theorem dX0_kernelSize_99 : decode cX0_kernelSize 99 = .ok (.iadd, 1) := by decide +kernel
theorem dX0_kernelSize_100 : decode cX0_kernelSize 100 = .ok (.putfield 36, 3) := by decide +kernel
theorem dX0_kernelSize_103 : decode cX0_kernelSize 103 = .ok (.iinc 3 1, 3) := by decide +kernel
theorem dX0_kernelSize_106 : decode cX0_kernelSize 106 = .ok (.goto (-83), 3) := by decide +kernel
theorem dX0_kernelSize_109 : decode cX0_kernelSize 109 = .ok (.aload_n 0, 1) := by decide +kernel
theorem dX0_kernelSize_110 : decode cX0_kernelSize 110 = .ok (.getfield 40, 3) := by decide +kernel
theorem dX0_kernelSize_113 : decode cX0_kernelSize 113 = .ok (.getfield 83, 3) := by decide +kernel
theorem dX0_kernelSize_116 : decode cX0_kernelSize 116 = .ok (.aload_n 0, 1) := by decide +kernel
theorem dX0_kernelSize_117 : decode cX0_kernelSize 117 = .ok (.getfield 36, 3) := by decide +kernel
theorem dX0_kernelSize_120 : decode cX0_kernelSize 120 = .ok (.iaload, 1) := by decide +kernel
theorem dX0_kernelSize_121 : decode cX0_kernelSize 121 = .ok (.ireturn, 1) := by decide +kernel
set_option maxRecDepth 20000 in
theorem ggX0_kernelItem_X2_numberAt : GoodIn wsX0_kernelItem wsX2_numberAt := goodIn_r _ [8, 9, 10, 34, 35, 36, 37, 38, 39, 40, 41] (by decide +kernel) (by decide +kernel)
set_option maxRecDepth 20000 in
theorem gX0_kernelItem_X2_numberAt : GoodIn wsX0_kernelItem (wsV RX0 103 RX2 yX2_numberAt wsX2_numberAt) := goodIn_app (goodIn_of _ (by decide +kernel)) ggX0_kernelItem_X2_numberAt
set_option maxRecDepth 20000 in
theorem ggX0_kernelItem_X2_addTimes : GoodIn wsX0_kernelItem wsX2_addTimes := goodIn_r _ [14, 15, 16, 10, 34, 35, 36, 37, 38, 39, 40, 41] (by decide +kernel) (by decide +kernel)
set_option maxRecDepth 20000 in
theorem gX0_kernelItem_X2_addTimes : GoodIn wsX0_kernelItem (wsV RX0 106 RX2 yX2_addTimes wsX2_addTimes) := goodIn_app (goodIn_of _ (by decide +kernel)) ggX0_kernelItem_X2_addTimes
set_option maxRecDepth 20000 in
theorem ggX0_kernelItem_X2_folded : GoodIn wsX0_kernelItem wsX2_folded := goodIn_r _ [20, 15, 16, 10, 21, 34, 35, 36, 37, 38, 39, 40, 41] (by decide +kernel) (by decide +kernel)
set_option maxRecDepth 20000 in
theorem gX0_kernelItem_X2_folded : GoodIn wsX0_kernelItem (wsV RX0 110 RX2 yX2_folded wsX2_folded) := goodIn_app (goodIn_of _ (by decide +kernel)) ggX0_kernelItem_X2_folded
theorem dX0_kernelItem_0 : decode cX0_kernelItem 0 = .ok (.iconst 0, 1) := by decide +kernel
theorem dX0_kernelItem_1 : decode cX0_kernelItem 1 = .ok (.istore_n 2, 1) := by decide +kernel
theorem dX0_kernelItem_2 : decode cX0_kernelItem 2 = .ok (.iload_n 2, 1) := by decide +kernel
theorem dX0_kernelItem_3 : decode cX0_kernelItem 3 = .ok (.aload_n 0, 1) := by decide +kernel
theorem dX0_kernelItem_4 : decode cX0_kernelItem 4 = .ok (.getfield 36, 3) := by decide +kernel
theorem dX0_kernelItem_7 : decode cX0_kernelItem 7 = .ok (.if_icmp .ge 31, 3) := by decide +kernel
theorem dX0_kernelItem_10 : decode cX0_kernelItem 10 = .ok (.aload_n 0, 1) := by decide +kernel
theorem dX0_kernelItem_11 : decode cX0_kernelItem 11 = .ok (.getfield 40, 3) := by decide +kernel
theorem dX0_kernelItem_14 : decode cX0_kernelItem 14 = .ok (.aload_n 0, 1) := by decide +kernel
theorem dX0_kernelItem_15 : decode cX0_kernelItem 15 = .ok (.getfield 33, 3) := by decide +kernel
theorem dX0_kernelItem_18 : decode cX0_kernelItem 18 = .ok (.iload_n 2, 1) := by decide +kernel
theorem dX0_kernelItem_19 : decode cX0_kernelItem 19 = .ok (.iaload, 1) := by decide +kernel
theorem dX0_kernelItem_20 : decode cX0_kernelItem 20 = .ok (.aload_n 0, 1) := by decide +kernel
theorem dX0_kernelItem_21 : decode cX0_kernelItem 21 = .ok (.getfield 40, 3) := by decide +kernel
theorem dX0_kernelItem_24 : decode cX0_kernelItem 24 = .ok (.iload_n 1, 1) := by decide +kernel
theorem dX0_kernelItem_25 : decode cX0_kernelItem 25 = .ok (.iload_n 2, 1) := by decide +kernel
theorem dX0_kernelItem_26 : decode cX0_kernelItem 26 = .ok (.invokevirtual 103, 3) := by decide +kernel
theorem dX0_kernelItem_29 : decode cX0_kernelItem 29 = .ok (.invokevirtual 106, 3) := by decide +kernel
theorem dX0_kernelItem_32 : decode cX0_kernelItem 32 = .ok (.iinc 2 1, 3) := by decide +kernel
theorem dX0_kernelItem_35 : decode cX0_kernelItem 35 = .ok (.goto (-33), 3) := by decide +kernel
theorem dX0_kernelItem_38 : decode cX0_kernelItem 38 = .ok (.aload_n 0, 1) := by decide +kernel
theorem dX0_kernelItem_39 : decode cX0_kernelItem 39 = .ok (.getfield 40, 3) := by decide +kernel
theorem dX0_kernelItem_42 : decode cX0_kernelItem 42 = .ok (.invokevirtual 110, 3) := by decide +kernel
theorem dX0_kernelItem_45 : decode cX0_kernelItem 45 = .ok (.ireturn, 1) := by decide +kernel
set_option maxRecDepth 20000 in
theorem ggX0_actBy_X2_plusTimes : GoodIn wsX0_actBy wsX2_plusTimes := goodIn_r _ [12, 13, 14, 15, 11, 16, 17, 18, 19, 20, 21, 22, 23, 24, 25, 26, 27, 28, 50, 51, 52, 53, 54, 55, 56, 57] (by decide +kernel) (by decide +kernel)
set_option maxRecDepth 20000 in
theorem gX0_actBy_X2_plusTimes : GoodIn wsX0_actBy (wsV RX0 121 RX2 yX2_plusTimes wsX2_plusTimes) := goodIn_app (goodIn_of _ (by decide +kernel)) ggX0_actBy_X2_plusTimes
set_option maxRecDepth 20000 in
theorem ggX0_actBy_X2_raised : GoodIn wsX0_actBy wsX2_raised := goodIn_r _ [32, 17, 19, 18, 33, 24, 25, 26, 11, 27, 28, 50, 51, 52, 53, 54, 55, 56, 57] (by decide +kernel) (by decide +kernel)
set_option maxRecDepth 20000 in
theorem gX0_actBy_X2_raised : GoodIn wsX0_actBy (wsV RX0 125 RX2 yX2_raised wsX2_raised) := goodIn_app (goodIn_of _ (by decide +kernel)) ggX0_actBy_X2_raised
set_option maxRecDepth 20000 in
theorem ggX0_actBy_X2_split : GoodIn wsX0_actBy wsX2_split := goodIn_r _ [37, 17, 19, 50, 51, 52, 53, 54, 55, 56, 57] (by decide +kernel) (by decide +kernel)
set_option maxRecDepth 20000 in
theorem gX0_actBy_X2_split : GoodIn wsX0_actBy (wsV RX0 62 RX2 yX2_split wsX2_split) := goodIn_app (goodIn_of _ (by decide +kernel)) ggX0_actBy_X2_split
theorem dX0_actBy_0 : decode cX0_actBy 0 = .ok (.aload_n 0, 1) := by decide +kernel
theorem dX0_actBy_1 : decode cX0_actBy 1 = .ok (.getfield 16, 3) := by decide +kernel
theorem dX0_actBy_4 : decode cX0_actBy 4 = .ok (.aload_n 1, 1) := by decide +kernel
theorem dX0_actBy_5 : decode cX0_actBy 5 = .ok (.if_acmp .ne 4, 3) := by decide +kernel
theorem dX0_actBy_8 : decode cX0_actBy 8 = .ok (.return_, 1) := by decide +kernel
theorem dX0_actBy_9 : decode cX0_actBy 9 = .ok (.aload_n 0, 1) := by decide +kernel
theorem dX0_actBy_10 : decode cX0_actBy 10 = .ok (.aload_n 1, 1) := by decide +kernel
theorem dX0_actBy_11 : decode cX0_actBy 11 = .ok (.putfield 16, 3) := by decide +kernel
theorem dX0_actBy_14 : decode cX0_actBy 14 = .ok (.iconst 0, 1) := by decide +kernel
theorem dX0_actBy_15 : decode cX0_actBy 15 = .ok (.istore_n 2, 1) := by decide +kernel
theorem dX0_actBy_16 : decode cX0_actBy 16 = .ok (.iload_n 2, 1) := by decide +kernel
theorem dX0_actBy_17 : decode cX0_actBy 17 = .ok (.aload_n 0, 1) := by decide +kernel
theorem dX0_actBy_18 : decode cX0_actBy 18 = .ok (.getfield 57, 3) := by decide +kernel
theorem dX0_actBy_21 : decode cX0_actBy 21 = .ok (.if_icmp .ge 83, 3) := by decide +kernel
theorem dX0_actBy_24 : decode cX0_actBy 24 = .ok (.aload_n 0, 1) := by decide +kernel
theorem dX0_actBy_25 : decode cX0_actBy 25 = .ok (.getfield 40, 3) := by decide +kernel
theorem dX0_actBy_28 : decode cX0_actBy 28 = .ok (.getfield 83, 3) := by decide +kernel
theorem dX0_actBy_31 : decode cX0_actBy 31 = .ok (.iload_n 2, 1) := by decide +kernel
theorem dX0_actBy_32 : decode cX0_actBy 32 = .ok (.iaload, 1) := by decide +kernel
theorem dX0_actBy_33 : decode cX0_actBy 33 = .ok (.istore_n 3, 1) := by decide +kernel
theorem dX0_actBy_34 : decode cX0_actBy 34 = .ok (.iconst 0, 1) := by decide +kernel
theorem dX0_actBy_35 : decode cX0_actBy 35 = .ok (.istore 4, 2) := by decide +kernel
theorem dX0_actBy_37 : decode cX0_actBy 37 = .ok (.iconst 0, 1) := by decide +kernel
theorem dX0_actBy_38 : decode cX0_actBy 38 = .ok (.istore 5, 2) := by decide +kernel
theorem dX0_actBy_40 : decode cX0_actBy 40 = .ok (.iload 5, 2) := by decide +kernel
theorem dX0_actBy_42 : decode cX0_actBy 42 = .ok (.aload_n 1, 1) := by decide +kernel
theorem dX0_actBy_43 : decode cX0_actBy 43 = .ok (.getfield 113, 3) := by decide +kernel
theorem dX0_actBy_46 : decode cX0_actBy 46 = .ok (.if_icmp .gt 37, 3) := by decide +kernel
theorem dX0_actBy_49 : decode cX0_actBy 49 = .ok (.aload_n 0, 1) := by decide +kernel
theorem dX0_actBy_50 : decode cX0_actBy 50 = .ok (.getfield 40, 3) := by decide +kernel
theorem dX0_actBy_53 : decode cX0_actBy 53 = .ok (.iload 4, 2) := by decide +kernel
theorem dX0_actBy_55 : decode cX0_actBy 55 = .ok (.aload_n 1, 1) := by decide +kernel
theorem dX0_actBy_56 : decode cX0_actBy 56 = .ok (.getfield 118, 3) := by decide +kernel
theorem dX0_actBy_59 : decode cX0_actBy 59 = .ok (.iload 5, 2) := by decide +kernel
theorem dX0_actBy_61 : decode cX0_actBy 61 = .ok (.iaload, 1) := by decide +kernel
theorem dX0_actBy_62 : decode cX0_actBy 62 = .ok (.iload_n 3, 1) := by decide +kernel
theorem dX0_actBy_63 : decode cX0_actBy 63 = .ok (.invokevirtual 121, 3) := by decide +kernel
theorem dX0_actBy_66 : decode cX0_actBy 66 = .ok (.istore 4, 2) := by decide +kernel
theorem dX0_actBy_68 : decode cX0_actBy 68 = .ok (.aload_n 0, 1) := by decide +kernel
theorem dX0_actBy_69 : decode cX0_actBy 69 = .ok (.getfield 40, 3) := by decide +kernel
theorem dX0_actBy_72 : decode cX0_actBy 72 = .ok (.iload_n 3, 1) := by decide +kernel
theorem dX0_actBy_73 : decode cX0_actBy 73 = .ok (.invokevirtual 125, 3) := by decide +kernel
theorem dX0_actBy_76 : decode cX0_actBy 76 = .ok (.istore_n 3, 1) := by decide +kernel
theorem dX0_actBy_77 : decode cX0_actBy 77 = .ok (.iinc 5 1, 3) := by decide +kernel
theorem dX0_actBy_80 : decode cX0_actBy 80 = .ok (.goto (-40), 3) := by decide +kernel
theorem dX0_actBy_83 : decode cX0_actBy 83 = .ok (.aload_n 0, 1) := by decide +kernel
theorem dX0_actBy_84 : decode cX0_actBy 84 = .ok (.getfield 40, 3) := by decide +kernel
theorem dX0_actBy_87 : decode cX0_actBy 87 = .ok (.iload 4, 2) := by decide +kernel
theorem dX0_actBy_89 : decode cX0_actBy 89 = .ok (.aload_n 0, 1) := by decide +kernel
theorem dX0_actBy_90 : decode cX0_actBy 90 = .ok (.getfield 11, 3) := by decide +kernel
theorem dX0_actBy_93 : decode cX0_actBy 93 = .ok (.iload_n 2, 1) := by decide +kernel
theorem dX0_actBy_94 : decode cX0_actBy 94 = .ok (.aaload, 1) := by decide +kernel
theorem dX0_actBy_95 : decode cX0_actBy 95 = .ok (.invokevirtual 62, 3) := by decide +kernel
theorem dX0_actBy_98 : decode cX0_actBy 98 = .ok (.iinc 2 1, 3) := by decide +kernel
theorem dX0_actBy_101 : decode cX0_actBy 101 = .ok (.goto (-85), 3) := by decide +kernel
theorem dX0_actBy_104 : decode cX0_actBy 104 = .ok (.return_, 1) := by decide +kernel
set_option maxRecDepth 20000 in
theorem ggX0_relationOfPoint_X6_putNumbers : GoodIn wsX0_relationOfPoint wsX6_putNumbers := goodIn_r _ [8, 9, 10, 11, 12, 13, 7, 14, 15, 16, 74, 75, 76, 77, 78, 79, 80, 81, 82, 83, 84, 85, 86, 87, 88, 89, 90, 91] (by decide +kernel) (by decide +kernel)
set_option maxRecDepth 20000 in
theorem gX0_relationOfPoint_X6_putNumbers : GoodIn wsX0_relationOfPoint (wsV RX0 93 RX6 yX6_putNumbers wsX6_putNumbers) := goodIn_app (goodIn_of _ (by decide +kernel)) ggX0_relationOfPoint_X6_putNumbers
set_option maxRecDepth 20000 in
theorem ggX0_relationOfPoint_X6_feed : GoodIn wsX0_relationOfPoint wsX6_feed := goodIn_r _ [20, 21, 22, 23, 15, 24, 25, 26, 27, 28, 29, 30, 7, 31, 32, 16, 33, 34, 35, 36, 37, 38, 39, 40, 41, 42, 43, 9, 44, 45, 46, 47, 48, 49, 50, 51, 52, 74, 75, 76, 77, 78, 79, 80, 81, 82, 83, 84, 85, 86, 87, 88, 89, 90, 91] (by decide +kernel) (by decide +kernel)
set_option maxRecDepth 20000 in
theorem gX0_relationOfPoint_X6_feed : GoodIn wsX0_relationOfPoint (wsV RX0 100 RX6 yX6_feed wsX6_feed) := goodIn_app (goodIn_of _ (by decide +kernel)) ggX0_relationOfPoint_X6_feed
set_option maxRecDepth 20000 in
theorem ggX0_relationOfPoint_X0_step : GoodIn wsX0_relationOfPoint wsX0_step := goodIn_r _ [57, 58, 1, 59, 60, 61, 25, 26, 27, 62, 63, 64, 65, 66, 67, 68, 69, 70, 71, 72, 73] (by decide +kernel) (by decide +kernel)
set_option maxRecDepth 20000 in
theorem gX0_relationOfPoint_X0_step : GoodIn wsX0_relationOfPoint (wsV RX0 96 RX0 yX0_step wsX0_step) := goodIn_app (goodIn_of _ (by decide +kernel)) ggX0_relationOfPoint_X0_step
theorem dX0_relationOfPoint_0 : decode cX0_relationOfPoint 0 = .ok (.iconst 0, 1) := by decide +kernel
theorem dX0_relationOfPoint_1 : decode cX0_relationOfPoint 1 = .ok (.istore_n 1, 1) := by decide +kernel
theorem dX0_relationOfPoint_2 : decode cX0_relationOfPoint 2 = .ok (.iconst 0, 1) := by decide +kernel
theorem dX0_relationOfPoint_3 : decode cX0_relationOfPoint 3 = .ok (.istore_n 2, 1) := by decide +kernel
theorem dX0_relationOfPoint_4 : decode cX0_relationOfPoint 4 = .ok (.iload_n 2, 1) := by decide +kernel
theorem dX0_relationOfPoint_5 : decode cX0_relationOfPoint 5 = .ok (.aload_n 0, 1) := by decide +kernel
theorem dX0_relationOfPoint_6 : decode cX0_relationOfPoint 6 = .ok (.getfield 57, 3) := by decide +kernel
theorem dX0_relationOfPoint_9 : decode cX0_relationOfPoint 9 = .ok (.if_icmp .gt 41, 3) := by decide +kernel
theorem dX0_relationOfPoint_12 : decode cX0_relationOfPoint 12 = .ok (.iload_n 1, 1) := by decide +kernel
theorem dX0_relationOfPoint_13 : decode cX0_relationOfPoint 13 = .ok (.ifCond .ne 37, 3) := by decide +kernel
theorem dX0_relationOfPoint_16 : decode cX0_relationOfPoint 16 = .ok (.aload_n 0, 1) := by decide +kernel
theorem dX0_relationOfPoint_17 : decode cX0_relationOfPoint 17 = .ok (.getfield 44, 3) := by decide +kernel
theorem dX0_relationOfPoint_20 : decode cX0_relationOfPoint 20 = .ok (.iconst 0, 1) := by decide +kernel
theorem dX0_relationOfPoint_21 : decode cX0_relationOfPoint 21 = .ok (.aload_n 0, 1) := by decide +kernel
theorem dX0_relationOfPoint_22 : decode cX0_relationOfPoint 22 = .ok (.getfield 23, 3) := by decide +kernel
theorem dX0_relationOfPoint_25 : decode cX0_relationOfPoint 25 = .ok (.invokevirtual 93, 3) := by decide +kernel
theorem dX0_relationOfPoint_28 : decode cX0_relationOfPoint 28 = .ok (.aload_n 0, 1) := by decide +kernel
theorem dX0_relationOfPoint_29 : decode cX0_relationOfPoint 29 = .ok (.getfield 44, 3) := by decide +kernel
theorem dX0_relationOfPoint_32 : decode cX0_relationOfPoint 32 = .ok (.invokevirtual 100, 3) := by decide +kernel
theorem dX0_relationOfPoint_35 : decode cX0_relationOfPoint 35 = .ok (.istore_n 1, 1) := by decide +kernel
theorem dX0_relationOfPoint_36 : decode cX0_relationOfPoint 36 = .ok (.aload_n 0, 1) := by decide +kernel
theorem dX0_relationOfPoint_37 : decode cX0_relationOfPoint 37 = .ok (.aload_n 0, 1) := by decide +kernel
theorem dX0_relationOfPoint_38 : decode cX0_relationOfPoint 38 = .ok (.getfield 23, 3) := by decide +kernel
theorem dX0_relationOfPoint_41 : decode cX0_relationOfPoint 41 = .ok (.invokevirtual 96, 3) := by decide +kernel
theorem dX0_relationOfPoint_44 : decode cX0_relationOfPoint 44 = .ok (.iinc 2 1, 3) := by decide +kernel
theorem dX0_relationOfPoint_47 : decode cX0_relationOfPoint 47 = .ok (.goto (-43), 3) := by decide +kernel
theorem dX0_relationOfPoint_50 : decode cX0_relationOfPoint 50 = .ok (.iload_n 1, 1) := by decide +kernel
theorem dX0_relationOfPoint_51 : decode cX0_relationOfPoint 51 = .ok (.ireturn, 1) := by decide +kernel
set_option maxRecDepth 20000 in
theorem ggX0_step_J7_fill_53178 : GoodIn wsX0_step wsJ7_fill_53178 := goodIn_r _ [8] (by decide +kernel) (by decide +kernel)
set_option maxRecDepth 20000 in
theorem gX0_step_J7_fill_53178 : GoodIn wsX0_step (va_wsS RX0 129 yJ7_fill_53178 wsJ7_fill_53178) := goodIn_app (goodIn_of _ (by decide +kernel)) ggX0_step_J7_fill_53178
theorem dX0_step_0 : decode cX0_step 0 = .ok (.aload_n 0, 1) := by decide +kernel
theorem dX0_step_1 : decode cX0_step 1 = .ok (.getfield 30, 3) := by decide +kernel
theorem dX0_step_4 : decode cX0_step 4 = .ok (.iconst 0, 1) := by decide +kernel
theorem dX0_step_5 : decode cX0_step 5 = .ok (.invokestatic 129, 3) := by decide +kernel
theorem dX0_step_8 : decode cX0_step 8 = .ok (.iconst 0, 1) := by decide +kernel
theorem dX0_step_9 : decode cX0_step 9 = .ok (.istore_n 2, 1) := by decide +kernel
theorem dX0_step_10 : decode cX0_step 10 = .ok (.iload_n 2, 1) := by decide +kernel
theorem dX0_step_11 : decode cX0_step 11 = .ok (.aload_n 0, 1) := by decide +kernel
theorem dX0_step_12 : decode cX0_step 12 = .ok (.getfield 57, 3) := by decide +kernel
theorem dX0_step_15 : decode cX0_step 15 = .ok (.if_icmp .ge 52, 3) := by decide +kernel
theorem dX0_step_18 : decode cX0_step 18 = .ok (.iconst 0, 1) := by decide +kernel
theorem dX0_step_19 : decode cX0_step 19 = .ok (.istore_n 3, 1) := by decide +kernel
theorem dX0_step_20 : decode cX0_step 20 = .ok (.iload_n 3, 1) := by decide +kernel
theorem dX0_step_21 : decode cX0_step 21 = .ok (.aload_n 0, 1) := by decide +kernel
theorem dX0_step_22 : decode cX0_step 22 = .ok (.getfield 57, 3) := by decide +kernel
theorem dX0_step_25 : decode cX0_step 25 = .ok (.if_icmp .ge 36, 3) := by decide +kernel
theorem dX0_step_28 : decode cX0_step 28 = .ok (.aload_n 1, 1) := by decide +kernel
theorem dX0_step_29 : decode cX0_step 29 = .ok (.iload_n 2, 1) := by decide +kernel
theorem dX0_step_30 : decode cX0_step 30 = .ok (.iaload, 1) := by decide +kernel
theorem dX0_step_31 : decode cX0_step 31 = .ok (.ifCond .eq 30, 3) := by decide +kernel
theorem dX0_step_34 : decode cX0_step 34 = .ok (.aload_n 0, 1) := by decide +kernel
theorem dX0_step_35 : decode cX0_step 35 = .ok (.getfield 30, 3) := by decide +kernel
theorem dX0_step_38 : decode cX0_step 38 = .ok (.iload_n 3, 1) := by decide +kernel
theorem dX0_step_39 : decode cX0_step 39 = .ok (.dup2, 1) := by decide +kernel
theorem dX0_step_40 : decode cX0_step 40 = .ok (.iaload, 1) := by decide +kernel
theorem dX0_step_41 : decode cX0_step 41 = .ok (.aload_n 1, 1) := by decide +kernel
theorem dX0_step_42 : decode cX0_step 42 = .ok (.iload_n 2, 1) := by decide +kernel
theorem dX0_step_43 : decode cX0_step 43 = .ok (.iaload, 1) := by decide +kernel
theorem dX0_step_44 : decode cX0_step 44 = .ok (.aload_n 0, 1) := by decide +kernel
theorem dX0_step_45 : decode cX0_step 45 = .ok (.getfield 11, 3) := by decide +kernel
theorem dX0_step_48 : decode cX0_step 48 = .ok (.iload_n 2, 1) := by decide +kernel
theorem dX0_step_49 : decode cX0_step 49 = .ok (.aaload, 1) := by decide +kernel
theorem dX0_step_50 : decode cX0_step 50 = .ok (.iload_n 3, 1) := by decide +kernel
theorem dX0_step_51 : decode cX0_step 51 = .ok (.iaload, 1) := by decide +kernel
theorem dX0_step_52 : decode cX0_step 52 = .ok (.imul, 1) := by decide +kernel
theorem dX0_step_53 : decode cX0_step 53 = .ok (.iadd, 1) := by decide +kernel
theorem dX0_step_54 : decode cX0_step 54 = .ok (.iastore, 1) := by decide +kernel
theorem dX0_step_55 : decode cX0_step 55 = .ok (.iinc 3 1, 3) := by decide +kernel
theorem dX0_step_58 : decode cX0_step 58 = .ok (.goto (-38), 3) := by decide +kernel
theorem dX0_step_61 : decode cX0_step 61 = .ok (.iinc 2 1, 3) := by decide +kernel
theorem dX0_step_64 : decode cX0_step 64 = .ok (.goto (-54), 3) := by decide +kernel
theorem dX0_step_67 : decode cX0_step 67 = .ok (.iconst 0, 1) := by decide +kernel
theorem dX0_step_68 : decode cX0_step 68 = .ok (.istore_n 2, 1) := by decide +kernel
theorem dX0_step_69 : decode cX0_step 69 = .ok (.iload_n 2, 1) := by decide +kernel
theorem dX0_step_70 : decode cX0_step 70 = .ok (.aload_n 0, 1) := by decide +kernel
theorem dX0_step_71 : decode cX0_step 71 = .ok (.getfield 57, 3) := by decide +kernel
theorem dX0_step_74 : decode cX0_step 74 = .ok (.if_icmp .ge 23, 3) := by decide +kernel
theorem dX0_step_77 : decode cX0_step 77 = .ok (.aload_n 1, 1) := by decide +kernel
theorem dX0_step_78 : decode cX0_step 78 = .ok (.iload_n 2, 1) := by decide +kernel
theorem dX0_step_79 : decode cX0_step 79 = .ok (.aload_n 0, 1) := by decide +kernel
theorem dX0_step_80 : decode cX0_step 80 = .ok (.getfield 30, 3) := by decide +kernel
theorem dX0_step_83 : decode cX0_step 83 = .ok (.iload_n 2, 1) := by decide +kernel
theorem dX0_step_84 : decode cX0_step 84 = .ok (.iaload, 1) := by decide +kernel
theorem dX0_step_85 : decode cX0_step 85 = .ok (.aload_n 0, 1) := by decide +kernel
theorem dX0_step_86 : decode cX0_step 86 = .ok (.getfield 53, 3) := by decide +kernel
theorem dX0_step_89 : decode cX0_step 89 = .ok (.irem, 1) := by decide +kernel
theorem dX0_step_90 : decode cX0_step 90 = .ok (.iastore, 1) := by decide +kernel
theorem dX0_step_91 : decode cX0_step 91 = .ok (.iinc 2 1, 3) := by decide +kernel
theorem dX0_step_94 : decode cX0_step 94 = .ok (.goto (-25), 3) := by decide +kernel
theorem dX0_step_97 : decode cX0_step 97 = .ok (.return_, 1) := by decide +kernel
set_option maxRecDepth 20000 in
theorem ggX0_follow_J7_fill_53178 : GoodIn wsX0_follow wsJ7_fill_53178 := goodIn_r _ [9] (by decide +kernel) (by decide +kernel)
set_option maxRecDepth 20000 in
theorem gX0_follow_J7_fill_53178 : GoodIn wsX0_follow (va_wsS RX0 129 yJ7_fill_53178 wsJ7_fill_53178) := goodIn_app (goodIn_of _ (by decide +kernel)) ggX0_follow_J7_fill_53178
set_option maxRecDepth 20000 in
theorem ggX0_follow_X2_degreeOf : GoodIn wsX0_follow wsX2_degreeOf := goodIn_r _ [14, 15, 40, 41, 42, 43, 44, 45, 46, 47] (by decide +kernel) (by decide +kernel)
set_option maxRecDepth 20000 in
theorem gX0_follow_X2_degreeOf : GoodIn wsX0_follow (wsV RX0 135 RX2 yX2_degreeOf wsX2_degreeOf) := goodIn_app (goodIn_of _ (by decide +kernel)) ggX0_follow_X2_degreeOf
set_option maxRecDepth 20000 in
theorem ggX0_follow_X0_step : GoodIn wsX0_follow wsX0_step := goodIn_r _ [20, 21, 3, 22, 5, 6, 7, 8, 9, 28, 29, 30, 31, 32, 33, 34, 35, 36, 37, 38, 39] (by decide +kernel) (by decide +kernel)
set_option maxRecDepth 20000 in
theorem gX0_follow_X0_step : GoodIn wsX0_follow (wsV RX0 96 RX0 yX0_step wsX0_step) := goodIn_app (goodIn_of _ (by decide +kernel)) ggX0_follow_X0_step
set_option maxRecDepth 20000 in
theorem ggX0_follow_X2_numberAt : GoodIn wsX0_follow wsX2_numberAt := goodIn_r _ [26, 15, 27, 40, 41, 42, 43, 44, 45, 46, 47] (by decide +kernel) (by decide +kernel)
set_option maxRecDepth 20000 in
theorem gX0_follow_X2_numberAt : GoodIn wsX0_follow (wsV RX0 103 RX2 yX2_numberAt wsX2_numberAt) := goodIn_app (goodIn_of _ (by decide +kernel)) ggX0_follow_X2_numberAt
theorem dX0_follow_0 : decode cX0_follow 0 = .ok (.aload_n 0, 1) := by decide +kernel
theorem dX0_follow_1 : decode cX0_follow 1 = .ok (.getfield 23, 3) := by decide +kernel
theorem dX0_follow_4 : decode cX0_follow 4 = .ok (.iconst 0, 1) := by decide +kernel
theorem dX0_follow_5 : decode cX0_follow 5 = .ok (.invokestatic 129, 3) := by decide +kernel
theorem dX0_follow_8 : decode cX0_follow 8 = .ok (.aload_n 0, 1) := by decide +kernel
theorem dX0_follow_9 : decode cX0_follow 9 = .ok (.getfield 40, 3) := by decide +kernel
theorem dX0_follow_12 : decode cX0_follow 12 = .ok (.iload_n 1, 1) := by decide +kernel
theorem dX0_follow_13 : decode cX0_follow 13 = .ok (.invokevirtual 135, 3) := by decide +kernel
theorem dX0_follow_16 : decode cX0_follow 16 = .ok (.istore_n 2, 1) := by decide +kernel
theorem dX0_follow_17 : decode cX0_follow 17 = .ok (.iload_n 2, 1) := by decide +kernel
theorem dX0_follow_18 : decode cX0_follow 18 = .ok (.ifCond .lt 74, 3) := by decide +kernel
theorem dX0_follow_21 : decode cX0_follow 21 = .ok (.aload_n 0, 1) := by decide +kernel
theorem dX0_follow_22 : decode cX0_follow 22 = .ok (.aload_n 0, 1) := by decide +kernel
theorem dX0_follow_23 : decode cX0_follow 23 = .ok (.getfield 23, 3) := by decide +kernel
theorem dX0_follow_26 : decode cX0_follow 26 = .ok (.invokevirtual 96, 3) := by decide +kernel
theorem dX0_follow_29 : decode cX0_follow 29 = .ok (.aload_n 0, 1) := by decide +kernel
theorem dX0_follow_30 : decode cX0_follow 30 = .ok (.getfield 40, 3) := by decide +kernel
theorem dX0_follow_33 : decode cX0_follow 33 = .ok (.iload_n 1, 1) := by decide +kernel
theorem dX0_follow_34 : decode cX0_follow 34 = .ok (.iload_n 2, 1) := by decide +kernel
theorem dX0_follow_35 : decode cX0_follow 35 = .ok (.invokevirtual 103, 3) := by decide +kernel
theorem dX0_follow_38 : decode cX0_follow 38 = .ok (.istore_n 3, 1) := by decide +kernel
theorem dX0_follow_39 : decode cX0_follow 39 = .ok (.iconst 0, 1) := by decide +kernel
theorem dX0_follow_40 : decode cX0_follow 40 = .ok (.istore 4, 2) := by decide +kernel
theorem dX0_follow_42 : decode cX0_follow 42 = .ok (.iload 4, 2) := by decide +kernel
theorem dX0_follow_44 : decode cX0_follow 44 = .ok (.aload_n 0, 1) := by decide +kernel
theorem dX0_follow_45 : decode cX0_follow 45 = .ok (.getfield 57, 3) := by decide +kernel
theorem dX0_follow_48 : decode cX0_follow 48 = .ok (.if_icmp .ge 38, 3) := by decide +kernel
theorem dX0_follow_51 : decode cX0_follow 51 = .ok (.aload_n 0, 1) := by decide +kernel
theorem dX0_follow_52 : decode cX0_follow 52 = .ok (.getfield 23, 3) := by decide +kernel
theorem dX0_follow_55 : decode cX0_follow 55 = .ok (.iload 4, 2) := by decide +kernel
theorem dX0_follow_57 : decode cX0_follow 57 = .ok (.aload_n 0, 1) := by decide +kernel
theorem dX0_follow_58 : decode cX0_follow 58 = .ok (.getfield 23, 3) := by decide +kernel
theorem dX0_follow_61 : decode cX0_follow 61 = .ok (.iload 4, 2) := by decide +kernel
theorem dX0_follow_63 : decode cX0_follow 63 = .ok (.iaload, 1) := by decide +kernel
theorem dX0_follow_64 : decode cX0_follow 64 = .ok (.iload_n 3, 1) := by decide +kernel
theorem dX0_follow_65 : decode cX0_follow 65 = .ok (.aload_n 0, 1) := by decide +kernel
theorem dX0_follow_66 : decode cX0_follow 66 = .ok (.getfield 27, 3) := by decide +kernel
theorem dX0_follow_69 : decode cX0_follow 69 = .ok (.iload 4, 2) := by decide +kernel
theorem dX0_follow_71 : decode cX0_follow 71 = .ok (.iaload, 1) := by decide +kernel
theorem dX0_follow_72 : decode cX0_follow 72 = .ok (.imul, 1) := by decide +kernel
theorem dX0_follow_73 : decode cX0_follow 73 = .ok (.iadd, 1) := by decide +kernel
theorem dX0_follow_74 : decode cX0_follow 74 = .ok (.aload_n 0, 1) := by decide +kernel
theorem dX0_follow_75 : decode cX0_follow 75 = .ok (.getfield 53, 3) := by decide +kernel
theorem dX0_follow_78 : decode cX0_follow 78 = .ok (.irem, 1) := by decide +kernel
theorem dX0_follow_79 : decode cX0_follow 79 = .ok (.iastore, 1) := by decide +kernel
theorem dX0_follow_80 : decode cX0_follow 80 = .ok (.iinc 4 1, 3) := by decide +kernel
theorem dX0_follow_83 : decode cX0_follow 83 = .ok (.goto (-41), 3) := by decide +kernel
theorem dX0_follow_86 : decode cX0_follow 86 = .ok (.iinc 2 (-1), 3) := by decide +kernel
theorem dX0_follow_89 : decode cX0_follow 89 = .ok (.goto (-72), 3) := by decide +kernel
theorem dX0_follow_92 : decode cX0_follow 92 = .ok (.return_, 1) := by decide +kernel
set_option maxRecDepth 20000 in
theorem ggX1_init_X10_init : GoodIn wsX1_init wsX10_init := goodIn_r _ [4, 5, 6, 7, 8, 9, 10, 11, 12, 13, 14, 15, 16, 17, 18, 19, 20, 21, 22, 23, 24, 25, 26, 27, 28, 29] (by decide +kernel) (by decide +kernel)
set_option maxRecDepth 20000 in
theorem gX1_init_X10_init : GoodIn wsX1_init (wsX10_init) := ggX1_init_X10_init
theorem dX1_init_0 : decode cX1_init 0 = .ok (.aload_n 0, 1) := by decide +kernel
theorem dX1_init_1 : decode cX1_init 1 = .ok (.aload_n 1, 1) := by decide +kernel
theorem dX1_init_2 : decode cX1_init 2 = .ok (.iconst 3, 1) := by decide +kernel
theorem dX1_init_3 : decode cX1_init 3 = .ok (.iload_n 2, 1) := by decide +kernel
theorem dX1_init_4 : decode cX1_init 4 = .ok (.iload_n 3, 1) := by decide +kernel
theorem dX1_init_5 : decode cX1_init 5 = .ok (.invokespecial 1, 3) := by decide +kernel
theorem dX1_init_8 : decode cX1_init 8 = .ok (.return_, 1) := by decide +kernel
theorem dX1_kindTold_0 : decode cX1_kindTold 0 = .ok (.iconst 4, 1) := by decide +kernel
theorem dX1_kindTold_1 : decode cX1_kindTold 1 = .ok (.ireturn, 1) := by decide +kernel
set_option maxRecDepth 20000 in
theorem ggX1_sizeAsked_X9_leave : GoodIn wsX1_sizeAsked wsX9_leave := goodIn_r _ [5, 6, 7, 22, 23] (by decide +kernel) (by decide +kernel)
set_option maxRecDepth 20000 in
theorem gX1_sizeAsked_X9_leave : GoodIn wsX1_sizeAsked (wsV RX1 7 RX9 yX9_leave wsX9_leave) := goodIn_app (goodIn_of _ (by decide +kernel)) ggX1_sizeAsked_X9_leave
set_option maxRecDepth 20000 in
theorem ggX1_sizeAsked_X10_sizeAsked : GoodIn wsX1_sizeAsked wsX10_sizeAsked := goodIn_r _ [13, 14, 15, 2, 3, 4, 5, 6, 7, 24, 25, 26, 27, 28, 29, 30, 31, 32, 33, 34, 35, 36, 37, 38, 39, 40, 41, 22, 23] (by decide +kernel) (by decide +kernel)
set_option maxRecDepth 20000 in
theorem gX1_sizeAsked_X10_sizeAsked_s13 : GoodIn wsX1_sizeAsked (va_wsSU RX1 13 yX10_sizeAsked wsX10_sizeAsked) := goodIn_app (goodIn_of _ (by decide +kernel)) ggX1_sizeAsked_X10_sizeAsked
set_option maxRecDepth 20000 in
theorem ggX1_sizeAsked_X10_signAsked : GoodIn wsX1_sizeAsked wsX10_signAsked := goodIn_r _ [20, 21, 15, 2, 3, 4, 5, 6, 7, 24, 25, 26, 27, 28, 29, 30, 31, 32, 33, 34, 35, 36, 37, 38, 39, 40, 41, 22, 23] (by decide +kernel) (by decide +kernel)
set_option maxRecDepth 20000 in
theorem gX1_sizeAsked_X10_signAsked_u17X1 : GoodIn wsX1_sizeAsked (va_wsU RX1 17 RX1 "TimesByPowers$World" ⟨"TimesByPowers$Deep", "signAsked", "(LTimesByPowers$Trace;)I"⟩ yX10_signAsked wsX10_signAsked) := goodIn_app (goodIn_of _ (by decide +kernel)) ggX1_sizeAsked_X10_signAsked
theorem dX1_sizeAsked_0 : decode cX1_sizeAsked 0 = .ok (.aload_n 1, 1) := by decide +kernel
theorem dX1_sizeAsked_1 : decode cX1_sizeAsked 1 = .ok (.bipush 13, 2) := by decide +kernel
theorem dX1_sizeAsked_3 : decode cX1_sizeAsked 3 = .ok (.invokevirtual 7, 3) := by decide +kernel
theorem dX1_sizeAsked_6 : decode cX1_sizeAsked 6 = .ok (.aload_n 0, 1) := by decide +kernel
theorem dX1_sizeAsked_7 : decode cX1_sizeAsked 7 = .ok (.aload_n 1, 1) := by decide +kernel
theorem dX1_sizeAsked_8 : decode cX1_sizeAsked 8 = .ok (.invokespecial 13, 3) := by decide +kernel
theorem dX1_sizeAsked_11 : decode cX1_sizeAsked 11 = .ok (.istore_n 2, 1) := by decide +kernel
theorem dX1_sizeAsked_12 : decode cX1_sizeAsked 12 = .ok (.iload_n 2, 1) := by decide +kernel
theorem dX1_sizeAsked_13 : decode cX1_sizeAsked 13 = .ok (.aload_n 0, 1) := by decide +kernel
theorem dX1_sizeAsked_14 : decode cX1_sizeAsked 14 = .ok (.aload_n 1, 1) := by decide +kernel
theorem dX1_sizeAsked_15 : decode cX1_sizeAsked 15 = .ok (.invokevirtual 17, 3) := by decide +kernel
theorem dX1_sizeAsked_18 : decode cX1_sizeAsked 18 = .ok (.iadd, 1) := by decide +kernel
theorem dX1_sizeAsked_19 : decode cX1_sizeAsked 19 = .ok (.ireturn, 1) := by decide +kernel
set_option maxRecDepth 20000 in
theorem ggX2_init_X2_numberAt : GoodIn wsX2_init wsX2_numberAt := goodIn_r _ [19, 5, 10, 40, 41, 42, 43, 44, 45, 46, 47] (by decide +kernel) (by decide +kernel)
set_option maxRecDepth 20000 in
theorem gX2_init_X2_numberAt : GoodIn wsX2_init (wsV RX2 42 RX2 yX2_numberAt wsX2_numberAt) := goodIn_app (goodIn_of _ (by decide +kernel)) ggX2_init_X2_numberAt
set_option maxRecDepth 20000 in
theorem ggX2_init_X2_power : GoodIn wsX2_init wsX2_power := goodIn_r _ [23, 24, 25, 26, 18, 27, 28, 29, 30, 31, 11, 10, 9, 32, 33, 34, 35, 6, 40, 41, 42, 43, 44, 45, 46, 47] (by decide +kernel) (by decide +kernel)
set_option maxRecDepth 20000 in
theorem gX2_init_X2_power : GoodIn wsX2_init (wsV RX2 46 RX2 yX2_power wsX2_power) := goodIn_app (goodIn_of _ (by decide +kernel)) ggX2_init_X2_power
set_option maxRecDepth 20000 in
theorem ggX2_init_X2_split : GoodIn wsX2_init wsX2_split := goodIn_r _ [39, 11, 10, 40, 41, 42, 43, 44, 45, 46, 47] (by decide +kernel) (by decide +kernel)
set_option maxRecDepth 20000 in
theorem gX2_init_X2_split : GoodIn wsX2_init (wsV RX2 49 RX2 yX2_split wsX2_split) := goodIn_app (goodIn_of _ (by decide +kernel)) ggX2_init_X2_split
set_option maxRecDepth 20000 in
theorem ggX2_init_X2_times : GoodIn wsX2_init wsX2_times := goodIn_r _ [27, 28, 29, 30, 18, 31, 11, 10, 9, 32, 33, 34, 35, 6, 40, 41, 42, 43, 44, 45, 46, 47] (by decide +kernel) (by decide +kernel)
set_option maxRecDepth 20000 in
theorem gX2_init_X2_times : GoodIn wsX2_init (wsV RX2 53 RX2 yX2_times wsX2_times) := goodIn_app (goodIn_of _ (by decide +kernel)) ggX2_init_X2_times
theorem dX2_init_0 : decode cX2_init 0 = .ok (.aload_n 0, 1) := by decide +kernel
theorem dX2_init_1 : decode cX2_init 1 = .ok (.invokespecial 3, 3) := by decide +kernel
theorem dX2_init_4 : decode cX2_init 4 = .ok (.aload_n 0, 1) := by decide +kernel
theorem dX2_init_5 : decode cX2_init 5 = .ok (.bipush 8, 2) := by decide +kernel
theorem dX2_init_7 : decode cX2_init 7 = .ok (.newarray .int, 2) := by decide +kernel
theorem dX2_init_9 : decode cX2_init 9 = .ok (.putfield 9, 3) := by decide +kernel
theorem dX2_init_12 : decode cX2_init 12 = .ok (.aload_n 0, 1) := by decide +kernel
theorem dX2_init_13 : decode cX2_init 13 = .ok (.bipush 6, 2) := by decide +kernel
theorem dX2_init_15 : decode cX2_init 15 = .ok (.newarray .int, 2) := by decide +kernel
theorem dX2_init_17 : decode cX2_init 17 = .ok (.putfield 15, 3) := by decide +kernel
theorem dX2_init_20 : decode cX2_init 20 = .ok (.aload_n 0, 1) := by decide +kernel
theorem dX2_init_21 : decode cX2_init 21 = .ok (.bipush 6, 2) := by decide +kernel
theorem dX2_init_23 : decode cX2_init 23 = .ok (.bipush 6, 2) := by decide +kernel
theorem dX2_init_25 : decode cX2_init 25 = .ok (.multianewarray 18 2, 4) := by decide +kernel
theorem dX2_init_29 : decode cX2_init 29 = .ok (.putfield 20, 3) := by decide +kernel
theorem dX2_init_32 : decode cX2_init 32 = .ok (.aload_n 0, 1) := by decide +kernel
theorem dX2_init_33 : decode cX2_init 33 = .ok (.bipush 12, 2) := by decide +kernel
theorem dX2_init_35 : decode cX2_init 35 = .ok (.newarray .int, 2) := by decide +kernel
theorem dX2_init_37 : decode cX2_init 37 = .ok (.putfield 23, 3) := by decide +kernel
theorem dX2_init_40 : decode cX2_init 40 = .ok (.aload_n 0, 1) := by decide +kernel
theorem dX2_init_41 : decode cX2_init 41 = .ok (.iload_n 1, 1) := by decide +kernel
theorem dX2_init_42 : decode cX2_init 42 = .ok (.putfield 26, 3) := by decide +kernel
theorem dX2_init_45 : decode cX2_init 45 = .ok (.aload_n 0, 1) := by decide +kernel
theorem dX2_init_46 : decode cX2_init 46 = .ok (.iload_n 2, 1) := by decide +kernel
theorem dX2_init_47 : decode cX2_init 47 = .ok (.putfield 30, 3) := by decide +kernel
theorem dX2_init_50 : decode cX2_init 50 = .ok (.aload_n 0, 1) := by decide +kernel
theorem dX2_init_51 : decode cX2_init 51 = .ok (.getfield 9, 3) := by decide +kernel
theorem dX2_init_54 : decode cX2_init 54 = .ok (.iconst 0, 1) := by decide +kernel
theorem dX2_init_55 : decode cX2_init 55 = .ok (.iconst 1, 1) := by decide +kernel
theorem dX2_init_56 : decode cX2_init 56 = .ok (.iastore, 1) := by decide +kernel
theorem dX2_init_57 : decode cX2_init 57 = .ok (.iconst 1, 1) := by decide +kernel
theorem dX2_init_58 : decode cX2_init 58 = .ok (.istore_n 3, 1) := by decide +kernel
theorem dX2_init_59 : decode cX2_init 59 = .ok (.iload_n 3, 1) := by decide +kernel
theorem dX2_init_60 : decode cX2_init 60 = .ok (.aload_n 0, 1) := by decide +kernel
theorem dX2_init_61 : decode cX2_init 61 = .ok (.getfield 9, 3) := by decide +kernel
theorem dX2_init_64 : decode cX2_init 64 = .ok (.arraylength, 1) := by decide +kernel
theorem dX2_init_65 : decode cX2_init 65 = .ok (.if_icmp .ge 25, 3) := by decide +kernel
theorem dX2_init_68 : decode cX2_init 68 = .ok (.aload_n 0, 1) := by decide +kernel
theorem dX2_init_69 : decode cX2_init 69 = .ok (.getfield 9, 3) := by decide +kernel
theorem dX2_init_72 : decode cX2_init 72 = .ok (.iload_n 3, 1) := by decide +kernel
theorem dX2_init_73 : decode cX2_init 73 = .ok (.aload_n 0, 1) := by decide +kernel
theorem dX2_init_74 : decode cX2_init 74 = .ok (.getfield 9, 3) := by decide +kernel
theorem dX2_init_77 : decode cX2_init 77 = .ok (.iload_n 3, 1) := by decide +kernel
theorem dX2_init_78 : decode cX2_init 78 = .ok (.iconst 1, 1) := by decide +kernel
theorem dX2_init_79 : decode cX2_init 79 = .ok (.isub, 1) := by decide +kernel
theorem dX2_init_80 : decode cX2_init 80 = .ok (.iaload, 1) := by decide +kernel
theorem dX2_init_81 : decode cX2_init 81 = .ok (.iload_n 1, 1) := by decide +kernel
theorem dX2_init_82 : decode cX2_init 82 = .ok (.imul, 1) := by decide +kernel
theorem dX2_init_83 : decode cX2_init 83 = .ok (.iastore, 1) := by decide +kernel
theorem dX2_init_84 : decode cX2_init 84 = .ok (.iinc 3 1, 3) := by decide +kernel
theorem dX2_init_87 : decode cX2_init 87 = .ok (.goto (-28), 3) := by decide +kernel
theorem dX2_init_90 : decode cX2_init 90 = .ok (.aload_n 0, 1) := by decide +kernel
theorem dX2_init_91 : decode cX2_init 91 = .ok (.aload_n 0, 1) := by decide +kernel
theorem dX2_init_92 : decode cX2_init 92 = .ok (.getfield 9, 3) := by decide +kernel
theorem dX2_init_95 : decode cX2_init 95 = .ok (.iload_n 2, 1) := by decide +kernel
theorem dX2_init_96 : decode cX2_init 96 = .ok (.iaload, 1) := by decide +kernel
theorem dX2_init_97 : decode cX2_init 97 = .ok (.putfield 33, 3) := by decide +kernel
theorem dX2_init_100 : decode cX2_init 100 = .ok (.aload_n 0, 1) := by decide +kernel
theorem dX2_init_101 : decode cX2_init 101 = .ok (.getstatic 36, 3) := by decide +kernel
theorem dX2_init_104 : decode cX2_init 104 = .ok (.iload_n 1, 1) := by decide +kernel
theorem dX2_init_105 : decode cX2_init 105 = .ok (.iconst 2, 1) := by decide +kernel
theorem dX2_init_106 : decode cX2_init 106 = .ok (.if_icmp .ne 7, 3) := by decide +kernel
theorem dX2_init_109 : decode cX2_init 109 = .ok (.iconst 0, 1) := by decide +kernel
theorem dX2_init_110 : decode cX2_init 110 = .ok (.goto 15, 3) := by decide +kernel
theorem dX2_init_113 : decode cX2_init 113 = .ok (.iload_n 1, 1) := by decide +kernel
theorem dX2_init_114 : decode cX2_init 114 = .ok (.iconst 3, 1) := by decide +kernel
theorem dX2_init_115 : decode cX2_init 115 = .ok (.if_icmp .ne 8, 3) := by decide +kernel
theorem dX2_init_118 : decode cX2_init 118 = .ok (.bipush 6, 2) := by decide +kernel
theorem dX2_init_120 : decode cX2_init 120 = .ok (.goto 5, 3) := by decide +kernel
theorem dX2_init_123 : decode cX2_init 123 = .ok (.bipush 12, 2) := by decide +kernel
theorem dX2_init_125 : decode cX2_init 125 = .ok (.iload_n 2, 1) := by decide +kernel
theorem dX2_init_126 : decode cX2_init 126 = .ok (.iadd, 1) := by decide +kernel
theorem dX2_init_127 : decode cX2_init 127 = .ok (.iconst 1, 1) := by decide +kernel
theorem dX2_init_128 : decode cX2_init 128 = .ok (.isub, 1) := by decide +kernel
theorem dX2_init_129 : decode cX2_init 129 = .ok (.iaload, 1) := by decide +kernel
theorem dX2_init_130 : decode cX2_init 130 = .ok (.putfield 39, 3) := by decide +kernel
theorem dX2_init_133 : decode cX2_init 133 = .ok (.iconst 0, 1) := by decide +kernel
theorem dX2_init_134 : decode cX2_init 134 = .ok (.istore_n 3, 1) := by decide +kernel
theorem dX2_init_135 : decode cX2_init 135 = .ok (.iload_n 3, 1) := by decide +kernel
theorem dX2_init_136 : decode cX2_init 136 = .ok (.iload_n 2, 1) := by decide +kernel
theorem dX2_init_137 : decode cX2_init 137 = .ok (.if_icmp .ge 28, 3) := by decide +kernel
theorem dX2_init_140 : decode cX2_init 140 = .ok (.aload_n 0, 1) := by decide +kernel
theorem dX2_init_141 : decode cX2_init 141 = .ok (.getfield 15, 3) := by decide +kernel
theorem dX2_init_144 : decode cX2_init 144 = .ok (.iload_n 3, 1) := by decide +kernel
theorem dX2_init_145 : decode cX2_init 145 = .ok (.iload_n 1, 1) := by decide +kernel
theorem dX2_init_146 : decode cX2_init 146 = .ok (.aload_n 0, 1) := by decide +kernel
theorem dX2_init_147 : decode cX2_init 147 = .ok (.aload_n 0, 1) := by decide +kernel
theorem dX2_init_148 : decode cX2_init 148 = .ok (.getfield 39, 3) := by decide +kernel
theorem dX2_init_151 : decode cX2_init 151 = .ok (.iload_n 3, 1) := by decide +kernel
theorem dX2_init_152 : decode cX2_init 152 = .ok (.invokevirtual 42, 3) := by decide +kernel
theorem dX2_init_155 : decode cX2_init 155 = .ok (.isub, 1) := by decide +kernel
theorem dX2_init_156 : decode cX2_init 156 = .ok (.iload_n 1, 1) := by decide +kernel
theorem dX2_init_157 : decode cX2_init 157 = .ok (.irem, 1) := by decide +kernel
theorem dX2_init_158 : decode cX2_init 158 = .ok (.iastore, 1) := by decide +kernel
theorem dX2_init_159 : decode cX2_init 159 = .ok (.iinc 3 1, 3) := by decide +kernel
theorem dX2_init_162 : decode cX2_init 162 = .ok (.goto (-27), 3) := by decide +kernel
theorem dX2_init_165 : decode cX2_init 165 = .ok (.iload_n 2, 1) := by decide +kernel
theorem dX2_init_166 : decode cX2_init 166 = .ok (.iconst 1, 1) := by decide +kernel
theorem dX2_init_167 : decode cX2_init 167 = .ok (.if_icmp .ne 7, 3) := by decide +kernel
theorem dX2_init_170 : decode cX2_init 170 = .ok (.iconst 1, 1) := by decide +kernel
theorem dX2_init_171 : decode cX2_init 171 = .ok (.goto 14, 3) := by decide +kernel
theorem dX2_init_174 : decode cX2_init 174 = .ok (.aload_n 0, 1) := by decide +kernel
theorem dX2_init_175 : decode cX2_init 175 = .ok (.aload_n 0, 1) := by decide +kernel
theorem dX2_init_176 : decode cX2_init 176 = .ok (.getfield 9, 3) := by decide +kernel
theorem dX2_init_179 : decode cX2_init 179 = .ok (.iconst 1, 1) := by decide +kernel
theorem dX2_init_180 : decode cX2_init 180 = .ok (.iaload, 1) := by decide +kernel
theorem dX2_init_181 : decode cX2_init 181 = .ok (.iload_n 1, 1) := by decide +kernel
theorem dX2_init_182 : decode cX2_init 182 = .ok (.invokevirtual 46, 3) := by decide +kernel
theorem dX2_init_185 : decode cX2_init 185 = .ok (.istore_n 3, 1) := by decide +kernel
theorem dX2_init_186 : decode cX2_init 186 = .ok (.iconst 1, 1) := by decide +kernel
theorem dX2_init_187 : decode cX2_init 187 = .ok (.istore 4, 2) := by decide +kernel
theorem dX2_init_189 : decode cX2_init 189 = .ok (.iconst 0, 1) := by decide +kernel
theorem dX2_init_190 : decode cX2_init 190 = .ok (.istore 5, 2) := by decide +kernel
theorem dX2_init_192 : decode cX2_init 192 = .ok (.iload 5, 2) := by decide +kernel
theorem dX2_init_194 : decode cX2_init 194 = .ok (.iload_n 2, 1) := by decide +kernel
theorem dX2_init_195 : decode cX2_init 195 = .ok (.if_icmp .ge 31, 3) := by decide +kernel
theorem dX2_init_198 : decode cX2_init 198 = .ok (.aload_n 0, 1) := by decide +kernel
theorem dX2_init_199 : decode cX2_init 199 = .ok (.iload 4, 2) := by decide +kernel
theorem dX2_init_201 : decode cX2_init 201 = .ok (.aload_n 0, 1) := by decide +kernel
theorem dX2_init_202 : decode cX2_init 202 = .ok (.getfield 20, 3) := by decide +kernel
theorem dX2_init_205 : decode cX2_init 205 = .ok (.iload 5, 2) := by decide +kernel
theorem dX2_init_207 : decode cX2_init 207 = .ok (.aaload, 1) := by decide +kernel
theorem dX2_init_208 : decode cX2_init 208 = .ok (.invokevirtual 49, 3) := by decide +kernel
theorem dX2_init_211 : decode cX2_init 211 = .ok (.aload_n 0, 1) := by decide +kernel
theorem dX2_init_212 : decode cX2_init 212 = .ok (.iload 4, 2) := by decide +kernel
theorem dX2_init_214 : decode cX2_init 214 = .ok (.iload_n 3, 1) := by decide +kernel
theorem dX2_init_215 : decode cX2_init 215 = .ok (.invokevirtual 53, 3) := by decide +kernel
theorem dX2_init_218 : decode cX2_init 218 = .ok (.istore 4, 2) := by decide +kernel
theorem dX2_init_220 : decode cX2_init 220 = .ok (.iinc 5 1, 3) := by decide +kernel
theorem dX2_init_223 : decode cX2_init 223 = .ok (.goto (-31), 3) := by decide +kernel
theorem dX2_init_226 : decode cX2_init 226 = .ok (.return_, 1) := by decide +kernel
theorem dX2_has_0 : decode cX2_has 0 = .ok (.iload_n 1, 1) := by decide +kernel
theorem dX2_has_1 : decode cX2_has 1 = .ok (.ifCond .lt 15, 3) := by decide +kernel
theorem dX2_has_4 : decode cX2_has 4 = .ok (.iload_n 1, 1) := by decide +kernel
theorem dX2_has_5 : decode cX2_has 5 = .ok (.aload_n 0, 1) := by decide +kernel
theorem dX2_has_6 : decode cX2_has 6 = .ok (.getfield 33, 3) := by decide +kernel
theorem dX2_has_9 : decode cX2_has 9 = .ok (.if_icmp .ge 7, 3) := by decide +kernel
theorem dX2_has_12 : decode cX2_has 12 = .ok (.iconst 1, 1) := by decide +kernel
theorem dX2_has_13 : decode cX2_has 13 = .ok (.goto 4, 3) := by decide +kernel
theorem dX2_has_16 : decode cX2_has 16 = .ok (.iconst 0, 1) := by decide +kernel
theorem dX2_has_17 : decode cX2_has 17 = .ok (.ireturn, 1) := by decide +kernel
theorem dX2_hasPolynomial_0 : decode cX2_hasPolynomial 0 = .ok (.iload_n 1, 1) := by decide +kernel
theorem dX2_hasPolynomial_1 : decode cX2_hasPolynomial 1 = .ok (.ifCond .lt 18, 3) := by decide +kernel
theorem dX2_hasPolynomial_4 : decode cX2_hasPolynomial 4 = .ok (.iload_n 1, 1) := by decide +kernel
theorem dX2_hasPolynomial_5 : decode cX2_hasPolynomial 5 = .ok (.aload_n 0, 1) := by decide +kernel
theorem dX2_hasPolynomial_6 : decode cX2_hasPolynomial 6 = .ok (.getfield 9, 3) := by decide +kernel
theorem dX2_hasPolynomial_9 : decode cX2_hasPolynomial 9 = .ok (.bipush 7, 2) := by decide +kernel
theorem dX2_hasPolynomial_11 : decode cX2_hasPolynomial 11 = .ok (.iaload, 1) := by decide +kernel
theorem dX2_hasPolynomial_12 : decode cX2_hasPolynomial 12 = .ok (.if_icmp .ge 7, 3) := by decide +kernel
theorem dX2_hasPolynomial_15 : decode cX2_hasPolynomial 15 = .ok (.iconst 1, 1) := by decide +kernel
theorem dX2_hasPolynomial_16 : decode cX2_hasPolynomial 16 = .ok (.goto 4, 3) := by decide +kernel
theorem dX2_hasPolynomial_19 : decode cX2_hasPolynomial 19 = .ok (.iconst 0, 1) := by decide +kernel
theorem dX2_hasPolynomial_20 : decode cX2_hasPolynomial 20 = .ok (.ireturn, 1) := by decide +kernel
theorem dX2_numberAt_0 : decode cX2_numberAt 0 = .ok (.iload_n 1, 1) := by decide +kernel
theorem dX2_numberAt_1 : decode cX2_numberAt 1 = .ok (.aload_n 0, 1) := by decide +kernel
theorem dX2_numberAt_2 : decode cX2_numberAt 2 = .ok (.getfield 9, 3) := by decide +kernel
theorem dX2_numberAt_5 : decode cX2_numberAt 5 = .ok (.iload_n 2, 1) := by decide +kernel
theorem dX2_numberAt_6 : decode cX2_numberAt 6 = .ok (.iaload, 1) := by decide +kernel
theorem dX2_numberAt_7 : decode cX2_numberAt 7 = .ok (.idiv, 1) := by decide +kernel
theorem dX2_numberAt_8 : decode cX2_numberAt 8 = .ok (.aload_n 0, 1) := by decide +kernel
theorem dX2_numberAt_9 : decode cX2_numberAt 9 = .ok (.getfield 26, 3) := by decide +kernel
theorem dX2_numberAt_12 : decode cX2_numberAt 12 = .ok (.irem, 1) := by decide +kernel
theorem dX2_numberAt_13 : decode cX2_numberAt 13 = .ok (.ireturn, 1) := by decide +kernel
theorem dX2_degreeOf_0 : decode cX2_degreeOf 0 = .ok (.iconst (-1), 1) := by decide +kernel
theorem dX2_degreeOf_1 : decode cX2_degreeOf 1 = .ok (.istore_n 2, 1) := by decide +kernel
theorem dX2_degreeOf_2 : decode cX2_degreeOf 2 = .ok (.iconst 0, 1) := by decide +kernel
theorem dX2_degreeOf_3 : decode cX2_degreeOf 3 = .ok (.istore_n 3, 1) := by decide +kernel
theorem dX2_degreeOf_4 : decode cX2_degreeOf 4 = .ok (.iload_n 3, 1) := by decide +kernel
theorem dX2_degreeOf_5 : decode cX2_degreeOf 5 = .ok (.bipush 6, 2) := by decide +kernel
theorem dX2_degreeOf_7 : decode cX2_degreeOf 7 = .ok (.if_icmp .gt 21, 3) := by decide +kernel
theorem dX2_degreeOf_10 : decode cX2_degreeOf 10 = .ok (.iload_n 1, 1) := by decide +kernel
theorem dX2_degreeOf_11 : decode cX2_degreeOf 11 = .ok (.aload_n 0, 1) := by decide +kernel
theorem dX2_degreeOf_12 : decode cX2_degreeOf 12 = .ok (.getfield 9, 3) := by decide +kernel
theorem dX2_degreeOf_15 : decode cX2_degreeOf 15 = .ok (.iload_n 3, 1) := by decide +kernel
theorem dX2_degreeOf_16 : decode cX2_degreeOf 16 = .ok (.iaload, 1) := by decide +kernel
theorem dX2_degreeOf_17 : decode cX2_degreeOf 17 = .ok (.if_icmp .lt 5, 3) := by decide +kernel
theorem dX2_degreeOf_20 : decode cX2_degreeOf 20 = .ok (.iload_n 3, 1) := by decide +kernel
theorem dX2_degreeOf_21 : decode cX2_degreeOf 21 = .ok (.istore_n 2, 1) := by decide +kernel
theorem dX2_degreeOf_22 : decode cX2_degreeOf 22 = .ok (.iinc 3 1, 3) := by decide +kernel
theorem dX2_degreeOf_25 : decode cX2_degreeOf 25 = .ok (.goto (-21), 3) := by decide +kernel
theorem dX2_degreeOf_28 : decode cX2_degreeOf 28 = .ok (.iload_n 2, 1) := by decide +kernel
theorem dX2_degreeOf_29 : decode cX2_degreeOf 29 = .ok (.ireturn, 1) := by decide +kernel
set_option maxRecDepth 20000 in
theorem ggX2_joined_X2_numberAt : GoodIn wsX2_joined wsX2_numberAt := goodIn_r _ [7, 2, 1, 8, 9, 10, 11, 12, 13, 14, 15] (by decide +kernel) (by decide +kernel)
set_option maxRecDepth 20000 in
theorem gX2_joined_X2_numberAt : GoodIn wsX2_joined (wsV RX2 42 RX2 yX2_numberAt wsX2_numberAt) := goodIn_app (goodIn_of _ (by decide +kernel)) ggX2_joined_X2_numberAt
theorem dX2_joined_0 : decode cX2_joined 0 = .ok (.iconst 0, 1) := by decide +kernel
theorem dX2_joined_1 : decode cX2_joined 1 = .ok (.istore_n 3, 1) := by decide +kernel
theorem dX2_joined_2 : decode cX2_joined 2 = .ok (.iconst 0, 1) := by decide +kernel
theorem dX2_joined_3 : decode cX2_joined 3 = .ok (.istore 4, 2) := by decide +kernel
theorem dX2_joined_5 : decode cX2_joined 5 = .ok (.iload 4, 2) := by decide +kernel
theorem dX2_joined_7 : decode cX2_joined 7 = .ok (.bipush 6, 2) := by decide +kernel
theorem dX2_joined_9 : decode cX2_joined 9 = .ok (.if_icmp .gt 69, 3) := by decide +kernel
theorem dX2_joined_12 : decode cX2_joined 12 = .ok (.iconst 0, 1) := by decide +kernel
theorem dX2_joined_13 : decode cX2_joined 13 = .ok (.istore 5, 2) := by decide +kernel
theorem dX2_joined_15 : decode cX2_joined 15 = .ok (.iconst 0, 1) := by decide +kernel
theorem dX2_joined_16 : decode cX2_joined 16 = .ok (.istore 6, 2) := by decide +kernel
theorem dX2_joined_18 : decode cX2_joined 18 = .ok (.iload 6, 2) := by decide +kernel
theorem dX2_joined_20 : decode cX2_joined 20 = .ok (.iload 4, 2) := by decide +kernel
theorem dX2_joined_22 : decode cX2_joined 22 = .ok (.if_icmp .gt 32, 3) := by decide +kernel
theorem dX2_joined_25 : decode cX2_joined 25 = .ok (.iload 5, 2) := by decide +kernel
theorem dX2_joined_27 : decode cX2_joined 27 = .ok (.aload_n 0, 1) := by decide +kernel
theorem dX2_joined_28 : decode cX2_joined 28 = .ok (.iload_n 1, 1) := by decide +kernel
theorem dX2_joined_29 : decode cX2_joined 29 = .ok (.iload 6, 2) := by decide +kernel
theorem dX2_joined_31 : decode cX2_joined 31 = .ok (.invokevirtual 42, 3) := by decide +kernel
theorem dX2_joined_34 : decode cX2_joined 34 = .ok (.aload_n 0, 1) := by decide +kernel
theorem dX2_joined_35 : decode cX2_joined 35 = .ok (.iload_n 2, 1) := by decide +kernel
theorem dX2_joined_36 : decode cX2_joined 36 = .ok (.iload 4, 2) := by decide +kernel
theorem dX2_joined_38 : decode cX2_joined 38 = .ok (.iload 6, 2) := by decide +kernel
theorem dX2_joined_40 : decode cX2_joined 40 = .ok (.isub, 1) := by decide +kernel
theorem dX2_joined_41 : decode cX2_joined 41 = .ok (.invokevirtual 42, 3) := by decide +kernel
theorem dX2_joined_44 : decode cX2_joined 44 = .ok (.imul, 1) := by decide +kernel
theorem dX2_joined_45 : decode cX2_joined 45 = .ok (.iadd, 1) := by decide +kernel
theorem dX2_joined_46 : decode cX2_joined 46 = .ok (.istore 5, 2) := by decide +kernel
theorem dX2_joined_48 : decode cX2_joined 48 = .ok (.iinc 6 1, 3) := by decide +kernel
theorem dX2_joined_51 : decode cX2_joined 51 = .ok (.goto (-33), 3) := by decide +kernel
theorem dX2_joined_54 : decode cX2_joined 54 = .ok (.iload_n 3, 1) := by decide +kernel
theorem dX2_joined_55 : decode cX2_joined 55 = .ok (.iload 5, 2) := by decide +kernel
theorem dX2_joined_57 : decode cX2_joined 57 = .ok (.aload_n 0, 1) := by decide +kernel
theorem dX2_joined_58 : decode cX2_joined 58 = .ok (.getfield 26, 3) := by decide +kernel
theorem dX2_joined_61 : decode cX2_joined 61 = .ok (.irem, 1) := by decide +kernel
theorem dX2_joined_62 : decode cX2_joined 62 = .ok (.aload_n 0, 1) := by decide +kernel
theorem dX2_joined_63 : decode cX2_joined 63 = .ok (.getfield 9, 3) := by decide +kernel
theorem dX2_joined_66 : decode cX2_joined 66 = .ok (.iload 4, 2) := by decide +kernel
theorem dX2_joined_68 : decode cX2_joined 68 = .ok (.iaload, 1) := by decide +kernel
theorem dX2_joined_69 : decode cX2_joined 69 = .ok (.imul, 1) := by decide +kernel
theorem dX2_joined_70 : decode cX2_joined 70 = .ok (.iadd, 1) := by decide +kernel
theorem dX2_joined_71 : decode cX2_joined 71 = .ok (.istore_n 3, 1) := by decide +kernel
theorem dX2_joined_72 : decode cX2_joined 72 = .ok (.iinc 4 1, 3) := by decide +kernel
theorem dX2_joined_75 : decode cX2_joined 75 = .ok (.goto (-70), 3) := by decide +kernel
theorem dX2_joined_78 : decode cX2_joined 78 = .ok (.iload_n 3, 1) := by decide +kernel
theorem dX2_joined_79 : decode cX2_joined 79 = .ok (.ireturn, 1) := by decide +kernel
theorem dX2_split_0 : decode cX2_split 0 = .ok (.iload_n 1, 1) := by decide +kernel
theorem dX2_split_1 : decode cX2_split 1 = .ok (.istore_n 3, 1) := by decide +kernel
theorem dX2_split_2 : decode cX2_split 2 = .ok (.iconst 0, 1) := by decide +kernel
theorem dX2_split_3 : decode cX2_split 3 = .ok (.istore 4, 2) := by decide +kernel
theorem dX2_split_5 : decode cX2_split 5 = .ok (.iload 4, 2) := by decide +kernel
theorem dX2_split_7 : decode cX2_split 7 = .ok (.aload_n 0, 1) := by decide +kernel
theorem dX2_split_8 : decode cX2_split 8 = .ok (.getfield 30, 3) := by decide +kernel
theorem dX2_split_11 : decode cX2_split 11 = .ok (.if_icmp .ge 26, 3) := by decide +kernel
theorem dX2_split_14 : decode cX2_split 14 = .ok (.aload_n 2, 1) := by decide +kernel
theorem dX2_split_15 : decode cX2_split 15 = .ok (.iload 4, 2) := by decide +kernel
theorem dX2_split_17 : decode cX2_split 17 = .ok (.iload_n 3, 1) := by decide +kernel
theorem dX2_split_18 : decode cX2_split 18 = .ok (.aload_n 0, 1) := by decide +kernel
theorem dX2_split_19 : decode cX2_split 19 = .ok (.getfield 26, 3) := by decide +kernel
theorem dX2_split_22 : decode cX2_split 22 = .ok (.irem, 1) := by decide +kernel
theorem dX2_split_23 : decode cX2_split 23 = .ok (.iastore, 1) := by decide +kernel
theorem dX2_split_24 : decode cX2_split 24 = .ok (.iload_n 3, 1) := by decide +kernel
theorem dX2_split_25 : decode cX2_split 25 = .ok (.aload_n 0, 1) := by decide +kernel
theorem dX2_split_26 : decode cX2_split 26 = .ok (.getfield 26, 3) := by decide +kernel
theorem dX2_split_29 : decode cX2_split 29 = .ok (.idiv, 1) := by decide +kernel
theorem dX2_split_30 : decode cX2_split 30 = .ok (.istore_n 3, 1) := by decide +kernel
theorem dX2_split_31 : decode cX2_split 31 = .ok (.iinc 4 1, 3) := by decide +kernel
theorem dX2_split_34 : decode cX2_split 34 = .ok (.goto (-29), 3) := by decide +kernel
theorem dX2_split_37 : decode cX2_split 37 = .ok (.return_, 1) := by decide +kernel
theorem dX2_packed_0 : decode cX2_packed 0 = .ok (.iconst 0, 1) := by decide +kernel
theorem dX2_packed_1 : decode cX2_packed 1 = .ok (.istore_n 2, 1) := by decide +kernel
theorem dX2_packed_2 : decode cX2_packed 2 = .ok (.aload_n 0, 1) := by decide +kernel
theorem dX2_packed_3 : decode cX2_packed 3 = .ok (.getfield 30, 3) := by decide +kernel
theorem dX2_packed_6 : decode cX2_packed 6 = .ok (.iconst 1, 1) := by decide +kernel
theorem dX2_packed_7 : decode cX2_packed 7 = .ok (.isub, 1) := by decide +kernel
theorem dX2_packed_8 : decode cX2_packed 8 = .ok (.istore_n 3, 1) := by decide +kernel
theorem dX2_packed_9 : decode cX2_packed 9 = .ok (.iload_n 3, 1) := by decide +kernel
theorem dX2_packed_10 : decode cX2_packed 10 = .ok (.ifCond .lt 20, 3) := by decide +kernel
theorem dX2_packed_13 : decode cX2_packed 13 = .ok (.iload_n 2, 1) := by decide +kernel
theorem dX2_packed_14 : decode cX2_packed 14 = .ok (.aload_n 0, 1) := by decide +kernel
theorem dX2_packed_15 : decode cX2_packed 15 = .ok (.getfield 26, 3) := by decide +kernel
theorem dX2_packed_18 : decode cX2_packed 18 = .ok (.imul, 1) := by decide +kernel
theorem dX2_packed_19 : decode cX2_packed 19 = .ok (.aload_n 1, 1) := by decide +kernel
theorem dX2_packed_20 : decode cX2_packed 20 = .ok (.iload_n 3, 1) := by decide +kernel
theorem dX2_packed_21 : decode cX2_packed 21 = .ok (.iaload, 1) := by decide +kernel
theorem dX2_packed_22 : decode cX2_packed 22 = .ok (.iadd, 1) := by decide +kernel
theorem dX2_packed_23 : decode cX2_packed 23 = .ok (.istore_n 2, 1) := by decide +kernel
theorem dX2_packed_24 : decode cX2_packed 24 = .ok (.iinc 3 (-1), 3) := by decide +kernel
theorem dX2_packed_27 : decode cX2_packed 27 = .ok (.goto (-18), 3) := by decide +kernel
theorem dX2_packed_30 : decode cX2_packed 30 = .ok (.iload_n 2, 1) := by decide +kernel
theorem dX2_packed_31 : decode cX2_packed 31 = .ok (.ireturn, 1) := by decide +kernel
theorem dX2_addTimes_0 : decode cX2_addTimes 0 = .ok (.iload_n 1, 1) := by decide +kernel
theorem dX2_addTimes_1 : decode cX2_addTimes 1 = .ok (.istore_n 3, 1) := by decide +kernel
theorem dX2_addTimes_2 : decode cX2_addTimes 2 = .ok (.iconst 0, 1) := by decide +kernel
theorem dX2_addTimes_3 : decode cX2_addTimes 3 = .ok (.istore 4, 2) := by decide +kernel
theorem dX2_addTimes_5 : decode cX2_addTimes 5 = .ok (.iload 4, 2) := by decide +kernel
theorem dX2_addTimes_7 : decode cX2_addTimes 7 = .ok (.aload_n 0, 1) := by decide +kernel
theorem dX2_addTimes_8 : decode cX2_addTimes 8 = .ok (.getfield 30, 3) := by decide +kernel
theorem dX2_addTimes_11 : decode cX2_addTimes 11 = .ok (.if_icmp .ge 34, 3) := by decide +kernel
theorem dX2_addTimes_14 : decode cX2_addTimes 14 = .ok (.aload_n 0, 1) := by decide +kernel
theorem dX2_addTimes_15 : decode cX2_addTimes 15 = .ok (.getfield 23, 3) := by decide +kernel
theorem dX2_addTimes_18 : decode cX2_addTimes 18 = .ok (.iload 4, 2) := by decide +kernel
theorem dX2_addTimes_20 : decode cX2_addTimes 20 = .ok (.dup2, 1) := by decide +kernel
theorem dX2_addTimes_21 : decode cX2_addTimes 21 = .ok (.iaload, 1) := by decide +kernel
theorem dX2_addTimes_22 : decode cX2_addTimes 22 = .ok (.iload_n 3, 1) := by decide +kernel
theorem dX2_addTimes_23 : decode cX2_addTimes 23 = .ok (.aload_n 0, 1) := by decide +kernel
theorem dX2_addTimes_24 : decode cX2_addTimes 24 = .ok (.getfield 26, 3) := by decide +kernel
theorem dX2_addTimes_27 : decode cX2_addTimes 27 = .ok (.irem, 1) := by decide +kernel
theorem dX2_addTimes_28 : decode cX2_addTimes 28 = .ok (.iload_n 2, 1) := by decide +kernel
theorem dX2_addTimes_29 : decode cX2_addTimes 29 = .ok (.imul, 1) := by decide +kernel
theorem dX2_addTimes_30 : decode cX2_addTimes 30 = .ok (.iadd, 1) := by decide +kernel
theorem dX2_addTimes_31 : decode cX2_addTimes 31 = .ok (.iastore, 1) := by decide +kernel
theorem dX2_addTimes_32 : decode cX2_addTimes 32 = .ok (.iload_n 3, 1) := by decide +kernel
theorem dX2_addTimes_33 : decode cX2_addTimes 33 = .ok (.aload_n 0, 1) := by decide +kernel
theorem dX2_addTimes_34 : decode cX2_addTimes 34 = .ok (.getfield 26, 3) := by decide +kernel
theorem dX2_addTimes_37 : decode cX2_addTimes 37 = .ok (.idiv, 1) := by decide +kernel
theorem dX2_addTimes_38 : decode cX2_addTimes 38 = .ok (.istore_n 3, 1) := by decide +kernel
theorem dX2_addTimes_39 : decode cX2_addTimes 39 = .ok (.iinc 4 1, 3) := by decide +kernel
theorem dX2_addTimes_42 : decode cX2_addTimes 42 = .ok (.goto (-37), 3) := by decide +kernel
theorem dX2_addTimes_45 : decode cX2_addTimes 45 = .ok (.return_, 1) := by decide +kernel
theorem dX2_addProduct_0 : decode cX2_addProduct 0 = .ok (.iload_n 1, 1) := by decide +kernel
theorem dX2_addProduct_1 : decode cX2_addProduct 1 = .ok (.istore_n 3, 1) := by decide +kernel
theorem dX2_addProduct_2 : decode cX2_addProduct 2 = .ok (.iconst 0, 1) := by decide +kernel
theorem dX2_addProduct_3 : decode cX2_addProduct 3 = .ok (.istore 4, 2) := by decide +kernel
theorem dX2_addProduct_5 : decode cX2_addProduct 5 = .ok (.iload 4, 2) := by decide +kernel
theorem dX2_addProduct_7 : decode cX2_addProduct 7 = .ok (.aload_n 0, 1) := by decide +kernel
theorem dX2_addProduct_8 : decode cX2_addProduct 8 = .ok (.getfield 30, 3) := by decide +kernel
theorem dX2_addProduct_11 : decode cX2_addProduct 11 = .ok (.if_icmp .ge 82, 3) := by decide +kernel
theorem dX2_addProduct_14 : decode cX2_addProduct 14 = .ok (.iload_n 3, 1) := by decide +kernel
theorem dX2_addProduct_15 : decode cX2_addProduct 15 = .ok (.aload_n 0, 1) := by decide +kernel
theorem dX2_addProduct_16 : decode cX2_addProduct 16 = .ok (.getfield 26, 3) := by decide +kernel
theorem dX2_addProduct_19 : decode cX2_addProduct 19 = .ok (.irem, 1) := by decide +kernel
theorem dX2_addProduct_20 : decode cX2_addProduct 20 = .ok (.istore 5, 2) := by decide +kernel
theorem dX2_addProduct_22 : decode cX2_addProduct 22 = .ok (.iload_n 3, 1) := by decide +kernel
theorem dX2_addProduct_23 : decode cX2_addProduct 23 = .ok (.aload_n 0, 1) := by decide +kernel
theorem dX2_addProduct_24 : decode cX2_addProduct 24 = .ok (.getfield 26, 3) := by decide +kernel
theorem dX2_addProduct_27 : decode cX2_addProduct 27 = .ok (.idiv, 1) := by decide +kernel
theorem dX2_addProduct_28 : decode cX2_addProduct 28 = .ok (.istore_n 3, 1) := by decide +kernel
theorem dX2_addProduct_29 : decode cX2_addProduct 29 = .ok (.iload_n 2, 1) := by decide +kernel
theorem dX2_addProduct_30 : decode cX2_addProduct 30 = .ok (.istore 6, 2) := by decide +kernel
theorem dX2_addProduct_32 : decode cX2_addProduct 32 = .ok (.iconst 0, 1) := by decide +kernel
theorem dX2_addProduct_33 : decode cX2_addProduct 33 = .ok (.istore 7, 2) := by decide +kernel
theorem dX2_addProduct_35 : decode cX2_addProduct 35 = .ok (.iload 7, 2) := by decide +kernel
theorem dX2_addProduct_37 : decode cX2_addProduct 37 = .ok (.aload_n 0, 1) := by decide +kernel
theorem dX2_addProduct_38 : decode cX2_addProduct 38 = .ok (.getfield 30, 3) := by decide +kernel
theorem dX2_addProduct_41 : decode cX2_addProduct 41 = .ok (.if_icmp .ge 46, 3) := by decide +kernel
theorem dX2_addProduct_44 : decode cX2_addProduct 44 = .ok (.iload 5, 2) := by decide +kernel
theorem dX2_addProduct_46 : decode cX2_addProduct 46 = .ok (.ifCond .eq 41, 3) := by decide +kernel
theorem dX2_addProduct_49 : decode cX2_addProduct 49 = .ok (.aload_n 0, 1) := by decide +kernel
theorem dX2_addProduct_50 : decode cX2_addProduct 50 = .ok (.getfield 23, 3) := by decide +kernel
theorem dX2_addProduct_53 : decode cX2_addProduct 53 = .ok (.iload 4, 2) := by decide +kernel
theorem dX2_addProduct_55 : decode cX2_addProduct 55 = .ok (.iload 7, 2) := by decide +kernel
theorem dX2_addProduct_57 : decode cX2_addProduct 57 = .ok (.iadd, 1) := by decide +kernel
theorem dX2_addProduct_58 : decode cX2_addProduct 58 = .ok (.dup2, 1) := by decide +kernel
theorem dX2_addProduct_59 : decode cX2_addProduct 59 = .ok (.iaload, 1) := by decide +kernel
theorem dX2_addProduct_60 : decode cX2_addProduct 60 = .ok (.iload 6, 2) := by decide +kernel
theorem dX2_addProduct_62 : decode cX2_addProduct 62 = .ok (.aload_n 0, 1) := by decide +kernel
theorem dX2_addProduct_63 : decode cX2_addProduct 63 = .ok (.getfield 26, 3) := by decide +kernel
theorem dX2_addProduct_66 : decode cX2_addProduct 66 = .ok (.irem, 1) := by decide +kernel
theorem dX2_addProduct_67 : decode cX2_addProduct 67 = .ok (.iload 5, 2) := by decide +kernel
theorem dX2_addProduct_69 : decode cX2_addProduct 69 = .ok (.imul, 1) := by decide +kernel
theorem dX2_addProduct_70 : decode cX2_addProduct 70 = .ok (.iadd, 1) := by decide +kernel
theorem dX2_addProduct_71 : decode cX2_addProduct 71 = .ok (.iastore, 1) := by decide +kernel
theorem dX2_addProduct_72 : decode cX2_addProduct 72 = .ok (.iload 6, 2) := by decide +kernel
theorem dX2_addProduct_74 : decode cX2_addProduct 74 = .ok (.aload_n 0, 1) := by decide +kernel
theorem dX2_addProduct_75 : decode cX2_addProduct 75 = .ok (.getfield 26, 3) := by decide +kernel
theorem dX2_addProduct_78 : decode cX2_addProduct 78 = .ok (.idiv, 1) := by decide +kernel
theorem dX2_addProduct_79 : decode cX2_addProduct 79 = .ok (.istore 6, 2) := by decide +kernel
theorem dX2_addProduct_81 : decode cX2_addProduct 81 = .ok (.iinc 7 1, 3) := by decide +kernel
theorem dX2_addProduct_84 : decode cX2_addProduct 84 = .ok (.goto (-49), 3) := by decide +kernel
theorem dX2_addProduct_87 : decode cX2_addProduct 87 = .ok (.iinc 4 1, 3) := by decide +kernel
theorem dX2_addProduct_90 : decode cX2_addProduct 90 = .ok (.goto (-85), 3) := by decide +kernel
theorem dX2_addProduct_93 : decode cX2_addProduct 93 = .ok (.return_, 1) := by decide +kernel
theorem dX2_folded_0 : decode cX2_folded 0 = .ok (.iconst 2, 1) := by decide +kernel
theorem dX2_folded_1 : decode cX2_folded 1 = .ok (.aload_n 0, 1) := by decide +kernel
theorem dX2_folded_2 : decode cX2_folded 2 = .ok (.getfield 30, 3) := by decide +kernel
theorem dX2_folded_5 : decode cX2_folded 5 = .ok (.imul, 1) := by decide +kernel
theorem dX2_folded_6 : decode cX2_folded 6 = .ok (.iconst 2, 1) := by decide +kernel
theorem dX2_folded_7 : decode cX2_folded 7 = .ok (.isub, 1) := by decide +kernel
theorem dX2_folded_8 : decode cX2_folded 8 = .ok (.istore_n 1, 1) := by decide +kernel
theorem dX2_folded_9 : decode cX2_folded 9 = .ok (.iload_n 1, 1) := by decide +kernel
theorem dX2_folded_10 : decode cX2_folded 10 = .ok (.aload_n 0, 1) := by decide +kernel
theorem dX2_folded_11 : decode cX2_folded 11 = .ok (.getfield 30, 3) := by decide +kernel
theorem dX2_folded_14 : decode cX2_folded 14 = .ok (.if_icmp .lt 72, 3) := by decide +kernel
theorem dX2_folded_17 : decode cX2_folded 17 = .ok (.aload_n 0, 1) := by decide +kernel
theorem dX2_folded_18 : decode cX2_folded 18 = .ok (.getfield 23, 3) := by decide +kernel
theorem dX2_folded_21 : decode cX2_folded 21 = .ok (.iload_n 1, 1) := by decide +kernel
theorem dX2_folded_22 : decode cX2_folded 22 = .ok (.iaload, 1) := by decide +kernel
theorem dX2_folded_23 : decode cX2_folded 23 = .ok (.aload_n 0, 1) := by decide +kernel
theorem dX2_folded_24 : decode cX2_folded 24 = .ok (.getfield 26, 3) := by decide +kernel
theorem dX2_folded_27 : decode cX2_folded 27 = .ok (.irem, 1) := by decide +kernel
theorem dX2_folded_28 : decode cX2_folded 28 = .ok (.istore_n 2, 1) := by decide +kernel
theorem dX2_folded_29 : decode cX2_folded 29 = .ok (.aload_n 0, 1) := by decide +kernel
theorem dX2_folded_30 : decode cX2_folded 30 = .ok (.getfield 23, 3) := by decide +kernel
theorem dX2_folded_33 : decode cX2_folded 33 = .ok (.iload_n 1, 1) := by decide +kernel
theorem dX2_folded_34 : decode cX2_folded 34 = .ok (.iconst 0, 1) := by decide +kernel
theorem dX2_folded_35 : decode cX2_folded 35 = .ok (.iastore, 1) := by decide +kernel
theorem dX2_folded_36 : decode cX2_folded 36 = .ok (.iconst 0, 1) := by decide +kernel
theorem dX2_folded_37 : decode cX2_folded 37 = .ok (.istore_n 3, 1) := by decide +kernel
theorem dX2_folded_38 : decode cX2_folded 38 = .ok (.iload_n 3, 1) := by decide +kernel
theorem dX2_folded_39 : decode cX2_folded 39 = .ok (.aload_n 0, 1) := by decide +kernel
theorem dX2_folded_40 : decode cX2_folded 40 = .ok (.getfield 30, 3) := by decide +kernel
theorem dX2_folded_43 : decode cX2_folded 43 = .ok (.if_icmp .ge 37, 3) := by decide +kernel
theorem dX2_folded_46 : decode cX2_folded 46 = .ok (.iload_n 2, 1) := by decide +kernel
theorem dX2_folded_47 : decode cX2_folded 47 = .ok (.ifCond .eq 33, 3) := by decide +kernel
theorem dX2_folded_50 : decode cX2_folded 50 = .ok (.aload_n 0, 1) := by decide +kernel
theorem dX2_folded_51 : decode cX2_folded 51 = .ok (.getfield 23, 3) := by decide +kernel
theorem dX2_folded_54 : decode cX2_folded 54 = .ok (.iload_n 1, 1) := by decide +kernel
theorem dX2_folded_55 : decode cX2_folded 55 = .ok (.aload_n 0, 1) := by decide +kernel
theorem dX2_folded_56 : decode cX2_folded 56 = .ok (.getfield 30, 3) := by decide +kernel
theorem dX2_folded_59 : decode cX2_folded 59 = .ok (.isub, 1) := by decide +kernel
theorem dX2_folded_60 : decode cX2_folded 60 = .ok (.iload_n 3, 1) := by decide +kernel
theorem dX2_folded_61 : decode cX2_folded 61 = .ok (.iadd, 1) := by decide +kernel
theorem dX2_folded_62 : decode cX2_folded 62 = .ok (.dup2, 1) := by decide +kernel
theorem dX2_folded_63 : decode cX2_folded 63 = .ok (.iaload, 1) := by decide +kernel
theorem dX2_folded_64 : decode cX2_folded 64 = .ok (.iload_n 2, 1) := by decide +kernel
theorem dX2_folded_65 : decode cX2_folded 65 = .ok (.aload_n 0, 1) := by decide +kernel
theorem dX2_folded_66 : decode cX2_folded 66 = .ok (.getfield 15, 3) := by decide +kernel
theorem dX2_folded_69 : decode cX2_folded 69 = .ok (.iload_n 3, 1) := by decide +kernel
theorem dX2_folded_70 : decode cX2_folded 70 = .ok (.iaload, 1) := by decide +kernel
theorem dX2_folded_71 : decode cX2_folded 71 = .ok (.imul, 1) := by decide +kernel
theorem dX2_folded_72 : decode cX2_folded 72 = .ok (.iadd, 1) := by decide +kernel
theorem dX2_folded_73 : decode cX2_folded 73 = .ok (.iastore, 1) := by decide +kernel
theorem dX2_folded_74 : decode cX2_folded 74 = .ok (.iinc 3 1, 3) := by decide +kernel
theorem dX2_folded_77 : decode cX2_folded 77 = .ok (.goto (-39), 3) := by decide +kernel
theorem dX2_folded_80 : decode cX2_folded 80 = .ok (.iinc 1 (-1), 3) := by decide +kernel
theorem dX2_folded_83 : decode cX2_folded 83 = .ok (.goto (-74), 3) := by decide +kernel
theorem dX2_folded_86 : decode cX2_folded 86 = .ok (.iconst 0, 1) := by decide +kernel
theorem dX2_folded_87 : decode cX2_folded 87 = .ok (.istore_n 1, 1) := by decide +kernel
theorem dX2_folded_88 : decode cX2_folded 88 = .ok (.aload_n 0, 1) := by decide +kernel
theorem dX2_folded_89 : decode cX2_folded 89 = .ok (.getfield 30, 3) := by decide +kernel
theorem dX2_folded_92 : decode cX2_folded 92 = .ok (.iconst 1, 1) := by decide +kernel
theorem dX2_folded_93 : decode cX2_folded 93 = .ok (.isub, 1) := by decide +kernel
theorem dX2_folded_94 : decode cX2_folded 94 = .ok (.istore_n 2, 1) := by decide +kernel
theorem dX2_folded_95 : decode cX2_folded 95 = .ok (.iload_n 2, 1) := by decide +kernel
theorem dX2_folded_96 : decode cX2_folded 96 = .ok (.ifCond .lt 35, 3) := by decide +kernel
theorem dX2_folded_99 : decode cX2_folded 99 = .ok (.iload_n 1, 1) := by decide +kernel
theorem dX2_folded_100 : decode cX2_folded 100 = .ok (.aload_n 0, 1) := by decide +kernel
theorem dX2_folded_101 : decode cX2_folded 101 = .ok (.getfield 26, 3) := by decide +kernel
theorem dX2_folded_104 : decode cX2_folded 104 = .ok (.imul, 1) := by decide +kernel
theorem dX2_folded_105 : decode cX2_folded 105 = .ok (.aload_n 0, 1) := by decide +kernel
theorem dX2_folded_106 : decode cX2_folded 106 = .ok (.getfield 23, 3) := by decide +kernel
theorem dX2_folded_109 : decode cX2_folded 109 = .ok (.iload_n 2, 1) := by decide +kernel
theorem dX2_folded_110 : decode cX2_folded 110 = .ok (.iaload, 1) := by decide +kernel
theorem dX2_folded_111 : decode cX2_folded 111 = .ok (.aload_n 0, 1) := by decide +kernel
theorem dX2_folded_112 : decode cX2_folded 112 = .ok (.getfield 26, 3) := by decide +kernel
theorem dX2_folded_115 : decode cX2_folded 115 = .ok (.irem, 1) := by decide +kernel
theorem dX2_folded_116 : decode cX2_folded 116 = .ok (.iadd, 1) := by decide +kernel
theorem dX2_folded_117 : decode cX2_folded 117 = .ok (.istore_n 1, 1) := by decide +kernel
theorem dX2_folded_118 : decode cX2_folded 118 = .ok (.aload_n 0, 1) := by decide +kernel
theorem dX2_folded_119 : decode cX2_folded 119 = .ok (.getfield 23, 3) := by decide +kernel
theorem dX2_folded_122 : decode cX2_folded 122 = .ok (.iload_n 2, 1) := by decide +kernel
theorem dX2_folded_123 : decode cX2_folded 123 = .ok (.iconst 0, 1) := by decide +kernel
theorem dX2_folded_124 : decode cX2_folded 124 = .ok (.iastore, 1) := by decide +kernel
theorem dX2_folded_125 : decode cX2_folded 125 = .ok (.iinc 2 (-1), 3) := by decide +kernel
theorem dX2_folded_128 : decode cX2_folded 128 = .ok (.goto (-33), 3) := by decide +kernel
theorem dX2_folded_131 : decode cX2_folded 131 = .ok (.iload_n 1, 1) := by decide +kernel
theorem dX2_folded_132 : decode cX2_folded 132 = .ok (.ireturn, 1) := by decide +kernel
set_option maxRecDepth 20000 in
theorem ggX2_times_X2_addProduct : GoodIn wsX2_times wsX2_addProduct := goodIn_r _ [5, 6, 7, 8, 14, 15, 16, 17, 18, 19, 20, 21] (by decide +kernel) (by decide +kernel)
set_option maxRecDepth 20000 in
theorem gX2_times_X2_addProduct : GoodIn wsX2_times (wsV RX2 56 RX2 yX2_addProduct wsX2_addProduct) := goodIn_app (goodIn_of _ (by decide +kernel)) ggX2_times_X2_addProduct
set_option maxRecDepth 20000 in
theorem ggX2_times_X2_folded : GoodIn wsX2_times wsX2_folded := goodIn_r _ [12, 6, 8, 7, 13, 14, 15, 16, 17, 18, 19, 20, 21] (by decide +kernel) (by decide +kernel)
set_option maxRecDepth 20000 in
theorem gX2_times_X2_folded : GoodIn wsX2_times (wsV RX2 60 RX2 yX2_folded wsX2_folded) := goodIn_app (goodIn_of _ (by decide +kernel)) ggX2_times_X2_folded
theorem dX2_times_0 : decode cX2_times 0 = .ok (.aload_n 0, 1) := by decide +kernel
theorem dX2_times_1 : decode cX2_times 1 = .ok (.iload_n 1, 1) := by decide +kernel
theorem dX2_times_2 : decode cX2_times 2 = .ok (.iload_n 2, 1) := by decide +kernel
theorem dX2_times_3 : decode cX2_times 3 = .ok (.invokevirtual 56, 3) := by decide +kernel
theorem dX2_times_6 : decode cX2_times 6 = .ok (.aload_n 0, 1) := by decide +kernel
theorem dX2_times_7 : decode cX2_times 7 = .ok (.invokevirtual 60, 3) := by decide +kernel
theorem dX2_times_10 : decode cX2_times 10 = .ok (.ireturn, 1) := by decide +kernel
set_option maxRecDepth 20000 in
theorem ggX2_plusTimes_X2_addTimes : GoodIn wsX2_plusTimes wsX2_addTimes := goodIn_r _ [5, 6, 7, 8, 18, 19, 20, 21, 22, 23, 24, 25] (by decide +kernel) (by decide +kernel)
set_option maxRecDepth 20000 in
theorem gX2_plusTimes_X2_addTimes : GoodIn wsX2_plusTimes (wsV RX2 64 RX2 yX2_addTimes wsX2_addTimes) := goodIn_app (goodIn_of _ (by decide +kernel)) ggX2_plusTimes_X2_addTimes
set_option maxRecDepth 20000 in
theorem ggX2_plusTimes_X2_addProduct : GoodIn wsX2_plusTimes wsX2_addProduct := goodIn_r _ [12, 6, 8, 7, 18, 19, 20, 21, 22, 23, 24, 25] (by decide +kernel) (by decide +kernel)
set_option maxRecDepth 20000 in
theorem gX2_plusTimes_X2_addProduct : GoodIn wsX2_plusTimes (wsV RX2 56 RX2 yX2_addProduct wsX2_addProduct) := goodIn_app (goodIn_of _ (by decide +kernel)) ggX2_plusTimes_X2_addProduct
set_option maxRecDepth 20000 in
theorem ggX2_plusTimes_X2_folded : GoodIn wsX2_plusTimes wsX2_folded := goodIn_r _ [16, 6, 7, 8, 17, 18, 19, 20, 21, 22, 23, 24, 25] (by decide +kernel) (by decide +kernel)
set_option maxRecDepth 20000 in
theorem gX2_plusTimes_X2_folded : GoodIn wsX2_plusTimes (wsV RX2 60 RX2 yX2_folded wsX2_folded) := goodIn_app (goodIn_of _ (by decide +kernel)) ggX2_plusTimes_X2_folded
theorem dX2_plusTimes_0 : decode cX2_plusTimes 0 = .ok (.iload_n 2, 1) := by decide +kernel
theorem dX2_plusTimes_1 : decode cX2_plusTimes 1 = .ok (.ifCond .eq 7, 3) := by decide +kernel
theorem dX2_plusTimes_4 : decode cX2_plusTimes 4 = .ok (.iload_n 3, 1) := by decide +kernel
theorem dX2_plusTimes_5 : decode cX2_plusTimes 5 = .ok (.ifCond .ne 5, 3) := by decide +kernel
theorem dX2_plusTimes_8 : decode cX2_plusTimes 8 = .ok (.iload_n 1, 1) := by decide +kernel
theorem dX2_plusTimes_9 : decode cX2_plusTimes 9 = .ok (.ireturn, 1) := by decide +kernel
theorem dX2_plusTimes_10 : decode cX2_plusTimes 10 = .ok (.aload_n 0, 1) := by decide +kernel
theorem dX2_plusTimes_11 : decode cX2_plusTimes 11 = .ok (.iload_n 1, 1) := by decide +kernel
theorem dX2_plusTimes_12 : decode cX2_plusTimes 12 = .ok (.iconst 1, 1) := by decide +kernel
theorem dX2_plusTimes_13 : decode cX2_plusTimes 13 = .ok (.invokevirtual 64, 3) := by decide +kernel
theorem dX2_plusTimes_16 : decode cX2_plusTimes 16 = .ok (.aload_n 0, 1) := by decide +kernel
theorem dX2_plusTimes_17 : decode cX2_plusTimes 17 = .ok (.iload_n 2, 1) := by decide +kernel
theorem dX2_plusTimes_18 : decode cX2_plusTimes 18 = .ok (.iload_n 3, 1) := by decide +kernel
theorem dX2_plusTimes_19 : decode cX2_plusTimes 19 = .ok (.invokevirtual 56, 3) := by decide +kernel
theorem dX2_plusTimes_22 : decode cX2_plusTimes 22 = .ok (.aload_n 0, 1) := by decide +kernel
theorem dX2_plusTimes_23 : decode cX2_plusTimes 23 = .ok (.invokevirtual 60, 3) := by decide +kernel
theorem dX2_plusTimes_26 : decode cX2_plusTimes 26 = .ok (.ireturn, 1) := by decide +kernel
set_option maxRecDepth 20000 in
theorem ggX2_negative_X2_addTimes : GoodIn wsX2_negative wsX2_addTimes := goodIn_r _ [6, 7, 8, 1, 14, 15, 16, 17, 18, 19, 20, 21] (by decide +kernel) (by decide +kernel)
set_option maxRecDepth 20000 in
theorem gX2_negative_X2_addTimes : GoodIn wsX2_negative (wsV RX2 64 RX2 yX2_addTimes wsX2_addTimes) := goodIn_app (goodIn_of _ (by decide +kernel)) ggX2_negative_X2_addTimes
set_option maxRecDepth 20000 in
theorem ggX2_negative_X2_folded : GoodIn wsX2_negative wsX2_folded := goodIn_r _ [12, 7, 8, 1, 13, 14, 15, 16, 17, 18, 19, 20, 21] (by decide +kernel) (by decide +kernel)
set_option maxRecDepth 20000 in
theorem gX2_negative_X2_folded : GoodIn wsX2_negative (wsV RX2 60 RX2 yX2_folded wsX2_folded) := goodIn_app (goodIn_of _ (by decide +kernel)) ggX2_negative_X2_folded
theorem dX2_negative_0 : decode cX2_negative 0 = .ok (.aload_n 0, 1) := by decide +kernel
theorem dX2_negative_1 : decode cX2_negative 1 = .ok (.iload_n 1, 1) := by decide +kernel
theorem dX2_negative_2 : decode cX2_negative 2 = .ok (.aload_n 0, 1) := by decide +kernel
theorem dX2_negative_3 : decode cX2_negative 3 = .ok (.getfield 26, 3) := by decide +kernel
theorem dX2_negative_6 : decode cX2_negative 6 = .ok (.iconst 1, 1) := by decide +kernel
theorem dX2_negative_7 : decode cX2_negative 7 = .ok (.isub, 1) := by decide +kernel
theorem dX2_negative_8 : decode cX2_negative 8 = .ok (.invokevirtual 64, 3) := by decide +kernel
theorem dX2_negative_11 : decode cX2_negative 11 = .ok (.aload_n 0, 1) := by decide +kernel
theorem dX2_negative_12 : decode cX2_negative 12 = .ok (.invokevirtual 60, 3) := by decide +kernel
theorem dX2_negative_15 : decode cX2_negative 15 = .ok (.ireturn, 1) := by decide +kernel
set_option maxRecDepth 20000 in
theorem ggX2_power_X2_times : GoodIn wsX2_power wsX2_times := goodIn_r _ [5, 6, 7, 8, 4, 9, 10, 11, 12, 13, 14, 15, 16, 17, 18, 19, 20, 21, 22, 23, 24, 25] (by decide +kernel) (by decide +kernel)
set_option maxRecDepth 20000 in
theorem gX2_power_X2_times : GoodIn wsX2_power (wsV RX2 53 RX2 yX2_times wsX2_times) := goodIn_app (goodIn_of _ (by decide +kernel)) ggX2_power_X2_times
theorem dX2_power_0 : decode cX2_power 0 = .ok (.iconst 1, 1) := by decide +kernel
theorem dX2_power_1 : decode cX2_power 1 = .ok (.istore_n 3, 1) := by decide +kernel
theorem dX2_power_2 : decode cX2_power 2 = .ok (.iload_n 1, 1) := by decide +kernel
theorem dX2_power_3 : decode cX2_power 3 = .ok (.istore 4, 2) := by decide +kernel
theorem dX2_power_5 : decode cX2_power 5 = .ok (.iload_n 2, 1) := by decide +kernel
theorem dX2_power_6 : decode cX2_power 6 = .ok (.istore 5, 2) := by decide +kernel
theorem dX2_power_8 : decode cX2_power 8 = .ok (.iload 5, 2) := by decide +kernel
theorem dX2_power_10 : decode cX2_power 10 = .ok (.ifCond .le 44, 3) := by decide +kernel
theorem dX2_power_13 : decode cX2_power 13 = .ok (.iload 5, 2) := by decide +kernel
theorem dX2_power_15 : decode cX2_power 15 = .ok (.iconst 2, 1) := by decide +kernel
theorem dX2_power_16 : decode cX2_power 16 = .ok (.irem, 1) := by decide +kernel
theorem dX2_power_17 : decode cX2_power 17 = .ok (.iconst 1, 1) := by decide +kernel
theorem dX2_power_18 : decode cX2_power 18 = .ok (.if_icmp .ne 11, 3) := by decide +kernel
theorem dX2_power_21 : decode cX2_power 21 = .ok (.aload_n 0, 1) := by decide +kernel
theorem dX2_power_22 : decode cX2_power 22 = .ok (.iload_n 3, 1) := by decide +kernel
theorem dX2_power_23 : decode cX2_power 23 = .ok (.iload 4, 2) := by decide +kernel
theorem dX2_power_25 : decode cX2_power 25 = .ok (.invokevirtual 53, 3) := by decide +kernel
theorem dX2_power_28 : decode cX2_power 28 = .ok (.istore_n 3, 1) := by decide +kernel
theorem dX2_power_29 : decode cX2_power 29 = .ok (.iload 5, 2) := by decide +kernel
theorem dX2_power_31 : decode cX2_power 31 = .ok (.iconst 1, 1) := by decide +kernel
theorem dX2_power_32 : decode cX2_power 32 = .ok (.if_icmp .le 13, 3) := by decide +kernel
theorem dX2_power_35 : decode cX2_power 35 = .ok (.aload_n 0, 1) := by decide +kernel
theorem dX2_power_36 : decode cX2_power 36 = .ok (.iload 4, 2) := by decide +kernel
theorem dX2_power_38 : decode cX2_power 38 = .ok (.iload 4, 2) := by decide +kernel
theorem dX2_power_40 : decode cX2_power 40 = .ok (.invokevirtual 53, 3) := by decide +kernel
theorem dX2_power_43 : decode cX2_power 43 = .ok (.istore 4, 2) := by decide +kernel
theorem dX2_power_45 : decode cX2_power 45 = .ok (.iload 5, 2) := by decide +kernel
theorem dX2_power_47 : decode cX2_power 47 = .ok (.iconst 2, 1) := by decide +kernel
theorem dX2_power_48 : decode cX2_power 48 = .ok (.idiv, 1) := by decide +kernel
theorem dX2_power_49 : decode cX2_power 49 = .ok (.istore 5, 2) := by decide +kernel
theorem dX2_power_51 : decode cX2_power 51 = .ok (.goto (-43), 3) := by decide +kernel
theorem dX2_power_54 : decode cX2_power 54 = .ok (.iload_n 3, 1) := by decide +kernel
theorem dX2_power_55 : decode cX2_power 55 = .ok (.ireturn, 1) := by decide +kernel
set_option maxRecDepth 20000 in
theorem ggX2_inverse_X2_power : GoodIn wsX2_inverse wsX2_power := goodIn_r _ [6, 7, 8, 9, 5, 10, 11, 12, 13, 14, 15, 16, 17, 18, 19, 20, 21, 22, 23, 24, 25, 26, 27, 28, 29, 30] (by decide +kernel) (by decide +kernel)
set_option maxRecDepth 20000 in
theorem gX2_inverse_X2_power : GoodIn wsX2_inverse (wsV RX2 46 RX2 yX2_power wsX2_power) := goodIn_app (goodIn_of _ (by decide +kernel)) ggX2_inverse_X2_power
theorem dX2_inverse_0 : decode cX2_inverse 0 = .ok (.aload_n 0, 1) := by decide +kernel
theorem dX2_inverse_1 : decode cX2_inverse 1 = .ok (.iload_n 1, 1) := by decide +kernel
theorem dX2_inverse_2 : decode cX2_inverse 2 = .ok (.aload_n 0, 1) := by decide +kernel
theorem dX2_inverse_3 : decode cX2_inverse 3 = .ok (.getfield 33, 3) := by decide +kernel
theorem dX2_inverse_6 : decode cX2_inverse 6 = .ok (.iconst 2, 1) := by decide +kernel
theorem dX2_inverse_7 : decode cX2_inverse 7 = .ok (.isub, 1) := by decide +kernel
theorem dX2_inverse_8 : decode cX2_inverse 8 = .ok (.invokevirtual 46, 3) := by decide +kernel
theorem dX2_inverse_11 : decode cX2_inverse 11 = .ok (.ireturn, 1) := by decide +kernel
set_option maxRecDepth 20000 in
theorem ggX2_raised_X2_folded : GoodIn wsX2_raised wsX2_folded := goodIn_r _ [9, 1, 3, 2, 10, 11, 12, 13, 14, 15, 16, 17, 18] (by decide +kernel) (by decide +kernel)
set_option maxRecDepth 20000 in
theorem gX2_raised_X2_folded : GoodIn wsX2_raised (wsV RX2 60 RX2 yX2_folded wsX2_folded) := goodIn_app (goodIn_of _ (by decide +kernel)) ggX2_raised_X2_folded
theorem dX2_raised_0 : decode cX2_raised 0 = .ok (.iload_n 1, 1) := by decide +kernel
theorem dX2_raised_1 : decode cX2_raised 1 = .ok (.istore_n 2, 1) := by decide +kernel
theorem dX2_raised_2 : decode cX2_raised 2 = .ok (.iconst 0, 1) := by decide +kernel
theorem dX2_raised_3 : decode cX2_raised 3 = .ok (.istore_n 3, 1) := by decide +kernel
theorem dX2_raised_4 : decode cX2_raised 4 = .ok (.iload_n 3, 1) := by decide +kernel
theorem dX2_raised_5 : decode cX2_raised 5 = .ok (.aload_n 0, 1) := by decide +kernel
theorem dX2_raised_6 : decode cX2_raised 6 = .ok (.getfield 30, 3) := by decide +kernel
theorem dX2_raised_9 : decode cX2_raised 9 = .ok (.if_icmp .ge 69, 3) := by decide +kernel
theorem dX2_raised_12 : decode cX2_raised 12 = .ok (.iload_n 2, 1) := by decide +kernel
theorem dX2_raised_13 : decode cX2_raised 13 = .ok (.aload_n 0, 1) := by decide +kernel
theorem dX2_raised_14 : decode cX2_raised 14 = .ok (.getfield 26, 3) := by decide +kernel
theorem dX2_raised_17 : decode cX2_raised 17 = .ok (.irem, 1) := by decide +kernel
theorem dX2_raised_18 : decode cX2_raised 18 = .ok (.istore 4, 2) := by decide +kernel
theorem dX2_raised_20 : decode cX2_raised 20 = .ok (.iload_n 2, 1) := by decide +kernel
theorem dX2_raised_21 : decode cX2_raised 21 = .ok (.aload_n 0, 1) := by decide +kernel
theorem dX2_raised_22 : decode cX2_raised 22 = .ok (.getfield 26, 3) := by decide +kernel
theorem dX2_raised_25 : decode cX2_raised 25 = .ok (.idiv, 1) := by decide +kernel
theorem dX2_raised_26 : decode cX2_raised 26 = .ok (.istore_n 2, 1) := by decide +kernel
theorem dX2_raised_27 : decode cX2_raised 27 = .ok (.iconst 0, 1) := by decide +kernel
theorem dX2_raised_28 : decode cX2_raised 28 = .ok (.istore 5, 2) := by decide +kernel
theorem dX2_raised_30 : decode cX2_raised 30 = .ok (.iload 5, 2) := by decide +kernel
theorem dX2_raised_32 : decode cX2_raised 32 = .ok (.aload_n 0, 1) := by decide +kernel
theorem dX2_raised_33 : decode cX2_raised 33 = .ok (.getfield 30, 3) := by decide +kernel
theorem dX2_raised_36 : decode cX2_raised 36 = .ok (.if_icmp .ge 36, 3) := by decide +kernel
theorem dX2_raised_39 : decode cX2_raised 39 = .ok (.iload 4, 2) := by decide +kernel
theorem dX2_raised_41 : decode cX2_raised 41 = .ok (.ifCond .eq 31, 3) := by decide +kernel
theorem dX2_raised_44 : decode cX2_raised 44 = .ok (.aload_n 0, 1) := by decide +kernel
theorem dX2_raised_45 : decode cX2_raised 45 = .ok (.getfield 23, 3) := by decide +kernel
theorem dX2_raised_48 : decode cX2_raised 48 = .ok (.iload 5, 2) := by decide +kernel
theorem dX2_raised_50 : decode cX2_raised 50 = .ok (.dup2, 1) := by decide +kernel
theorem dX2_raised_51 : decode cX2_raised 51 = .ok (.iaload, 1) := by decide +kernel
theorem dX2_raised_52 : decode cX2_raised 52 = .ok (.iload 4, 2) := by decide +kernel
theorem dX2_raised_54 : decode cX2_raised 54 = .ok (.aload_n 0, 1) := by decide +kernel
theorem dX2_raised_55 : decode cX2_raised 55 = .ok (.getfield 20, 3) := by decide +kernel
theorem dX2_raised_58 : decode cX2_raised 58 = .ok (.iload_n 3, 1) := by decide +kernel
theorem dX2_raised_59 : decode cX2_raised 59 = .ok (.aaload, 1) := by decide +kernel
theorem dX2_raised_60 : decode cX2_raised 60 = .ok (.iload 5, 2) := by decide +kernel
theorem dX2_raised_62 : decode cX2_raised 62 = .ok (.iaload, 1) := by decide +kernel
theorem dX2_raised_63 : decode cX2_raised 63 = .ok (.imul, 1) := by decide +kernel
theorem dX2_raised_64 : decode cX2_raised 64 = .ok (.iadd, 1) := by decide +kernel
theorem dX2_raised_65 : decode cX2_raised 65 = .ok (.iastore, 1) := by decide +kernel
theorem dX2_raised_66 : decode cX2_raised 66 = .ok (.iinc 5 1, 3) := by decide +kernel
theorem dX2_raised_69 : decode cX2_raised 69 = .ok (.goto (-39), 3) := by decide +kernel
theorem dX2_raised_72 : decode cX2_raised 72 = .ok (.iinc 3 1, 3) := by decide +kernel
theorem dX2_raised_75 : decode cX2_raised 75 = .ok (.goto (-71), 3) := by decide +kernel
theorem dX2_raised_78 : decode cX2_raised 78 = .ok (.aload_n 0, 1) := by decide +kernel
theorem dX2_raised_79 : decode cX2_raised 79 = .ok (.invokevirtual 60, 3) := by decide +kernel
theorem dX2_raised_82 : decode cX2_raised 82 = .ok (.ireturn, 1) := by decide +kernel
set_option maxRecDepth 20000 in
theorem ggX3_init_X10_init : GoodIn wsX3_init wsX10_init := goodIn_r _ [4, 5, 6, 7, 8, 9, 10, 11, 12, 13, 14, 15, 16, 17, 18, 19, 20, 21, 22, 23, 24, 25, 26, 27, 28, 29] (by decide +kernel) (by decide +kernel)
set_option maxRecDepth 20000 in
theorem gX3_init_X10_init : GoodIn wsX3_init (wsX10_init) := ggX3_init_X10_init
theorem dX3_init_0 : decode cX3_init 0 = .ok (.aload_n 0, 1) := by decide +kernel
theorem dX3_init_1 : decode cX3_init 1 = .ok (.aload_n 1, 1) := by decide +kernel
theorem dX3_init_2 : decode cX3_init 2 = .ok (.iconst 1, 1) := by decide +kernel
theorem dX3_init_3 : decode cX3_init 3 = .ok (.iload_n 2, 1) := by decide +kernel
theorem dX3_init_4 : decode cX3_init 4 = .ok (.iload_n 3, 1) := by decide +kernel
theorem dX3_init_5 : decode cX3_init 5 = .ok (.invokespecial 1, 3) := by decide +kernel
theorem dX3_init_8 : decode cX3_init 8 = .ok (.return_, 1) := by decide +kernel
theorem dX3_kindTold_0 : decode cX3_kindTold 0 = .ok (.iconst 1, 1) := by decide +kernel
theorem dX3_kindTold_1 : decode cX3_kindTold 1 = .ok (.ireturn, 1) := by decide +kernel
set_option maxRecDepth 20000 in
theorem ggX3_signAsked_X9_leave : GoodIn wsX3_signAsked wsX9_leave := goodIn_r _ [5, 6, 7, 22, 23] (by decide +kernel) (by decide +kernel)
set_option maxRecDepth 20000 in
theorem gX3_signAsked_X9_leave : GoodIn wsX3_signAsked (wsV RX3 7 RX9 yX9_leave wsX9_leave) := goodIn_app (goodIn_of _ (by decide +kernel)) ggX3_signAsked_X9_leave
set_option maxRecDepth 20000 in
theorem ggX3_signAsked_X10_signAsked : GoodIn wsX3_signAsked wsX10_signAsked := goodIn_r _ [13, 14, 15, 2, 3, 4, 5, 6, 7, 24, 25, 26, 27, 28, 29, 30, 31, 32, 33, 34, 35, 36, 37, 38, 39, 40, 41, 22, 23] (by decide +kernel) (by decide +kernel)
set_option maxRecDepth 20000 in
theorem gX3_signAsked_X10_signAsked_s13 : GoodIn wsX3_signAsked (va_wsSU RX3 13 yX10_signAsked wsX10_signAsked) := goodIn_app (goodIn_of _ (by decide +kernel)) ggX3_signAsked_X10_signAsked
set_option maxRecDepth 20000 in
theorem ggX3_signAsked_X10_sizeAsked : GoodIn wsX3_signAsked wsX10_sizeAsked := goodIn_r _ [20, 21, 15, 2, 3, 4, 5, 6, 7, 24, 25, 26, 27, 28, 29, 30, 31, 32, 33, 34, 35, 36, 37, 38, 39, 40, 41, 22, 23] (by decide +kernel) (by decide +kernel)
set_option maxRecDepth 20000 in
theorem gX3_signAsked_X10_sizeAsked_u17X3 : GoodIn wsX3_signAsked (va_wsU RX3 17 RX3 "TimesByPowers$World" ⟨"TimesByPowers$Line", "sizeAsked", "(LTimesByPowers$Trace;)I"⟩ yX10_sizeAsked wsX10_sizeAsked) := goodIn_app (goodIn_of _ (by decide +kernel)) ggX3_signAsked_X10_sizeAsked
theorem dX3_signAsked_0 : decode cX3_signAsked 0 = .ok (.aload_n 1, 1) := by decide +kernel
theorem dX3_signAsked_1 : decode cX3_signAsked 1 = .ok (.bipush 23, 2) := by decide +kernel
theorem dX3_signAsked_3 : decode cX3_signAsked 3 = .ok (.invokevirtual 7, 3) := by decide +kernel
theorem dX3_signAsked_6 : decode cX3_signAsked 6 = .ok (.aload_n 0, 1) := by decide +kernel
theorem dX3_signAsked_7 : decode cX3_signAsked 7 = .ok (.aload_n 1, 1) := by decide +kernel
theorem dX3_signAsked_8 : decode cX3_signAsked 8 = .ok (.invokespecial 13, 3) := by decide +kernel
theorem dX3_signAsked_11 : decode cX3_signAsked 11 = .ok (.istore_n 2, 1) := by decide +kernel
theorem dX3_signAsked_12 : decode cX3_signAsked 12 = .ok (.iload_n 2, 1) := by decide +kernel
theorem dX3_signAsked_13 : decode cX3_signAsked 13 = .ok (.aload_n 0, 1) := by decide +kernel
theorem dX3_signAsked_14 : decode cX3_signAsked 14 = .ok (.aload_n 1, 1) := by decide +kernel
theorem dX3_signAsked_15 : decode cX3_signAsked 15 = .ok (.invokevirtual 17, 3) := by decide +kernel
theorem dX3_signAsked_18 : decode cX3_signAsked 18 = .ok (.iadd, 1) := by decide +kernel
theorem dX3_signAsked_19 : decode cX3_signAsked 19 = .ok (.ireturn, 1) := by decide +kernel
set_option maxRecDepth 20000 in
theorem ggX4_init_X10_init : GoodIn wsX4_init wsX10_init := goodIn_r _ [5, 6, 7, 8, 9, 10, 11, 12, 23, 24, 25, 26, 27, 28, 29, 30, 13, 14, 15, 16, 17, 18, 19, 20, 21, 22] (by decide +kernel) (by decide +kernel)
set_option maxRecDepth 20000 in
theorem gX4_init_X10_init : GoodIn wsX4_init (wsX10_init) := ggX4_init_X10_init
theorem dX4_init_0 : decode cX4_init 0 = .ok (.aload_n 0, 1) := by decide +kernel
theorem dX4_init_1 : decode cX4_init 1 = .ok (.aload_n 1, 1) := by decide +kernel
theorem dX4_init_2 : decode cX4_init 2 = .ok (.iconst 2, 1) := by decide +kernel
theorem dX4_init_3 : decode cX4_init 3 = .ok (.iload_n 2, 1) := by decide +kernel
theorem dX4_init_4 : decode cX4_init 4 = .ok (.iload_n 3, 1) := by decide +kernel
theorem dX4_init_5 : decode cX4_init 5 = .ok (.invokespecial 1, 3) := by decide +kernel
theorem dX4_init_8 : decode cX4_init 8 = .ok (.aload_n 0, 1) := by decide +kernel
theorem dX4_init_9 : decode cX4_init 9 = .ok (.iload 4, 2) := by decide +kernel
theorem dX4_init_11 : decode cX4_init 11 = .ok (.putfield 7, 3) := by decide +kernel
theorem dX4_init_14 : decode cX4_init 14 = .ok (.return_, 1) := by decide +kernel
theorem dX4_kindTold_0 : decode cX4_kindTold 0 = .ok (.iconst 2, 1) := by decide +kernel
theorem dX4_kindTold_1 : decode cX4_kindTold 1 = .ok (.ireturn, 1) := by decide +kernel
set_option maxRecDepth 20000 in
theorem ggX4_sizeAsked_X9_leave : GoodIn wsX4_sizeAsked wsX9_leave := goodIn_r _ [5, 6, 7, 16, 17] (by decide +kernel) (by decide +kernel)
set_option maxRecDepth 20000 in
theorem gX4_sizeAsked_X9_leave : GoodIn wsX4_sizeAsked (wsV RX4 13 RX9 yX9_leave wsX9_leave) := goodIn_app (goodIn_of _ (by decide +kernel)) ggX4_sizeAsked_X9_leave
set_option maxRecDepth 20000 in
theorem ggX4_sizeAsked_X10_sizeAsked : GoodIn wsX4_sizeAsked wsX10_sizeAsked := goodIn_r _ [13, 14, 15, 2, 3, 4, 5, 6, 7, 18, 19, 20, 21, 22, 23, 24, 25, 26, 27, 28, 29, 30, 31, 32, 33, 34, 35, 16, 17] (by decide +kernel) (by decide +kernel)
set_option maxRecDepth 20000 in
theorem gX4_sizeAsked_X10_sizeAsked_s19 : GoodIn wsX4_sizeAsked (va_wsSU RX4 19 yX10_sizeAsked wsX10_sizeAsked) := goodIn_app (goodIn_of _ (by decide +kernel)) ggX4_sizeAsked_X10_sizeAsked
theorem dX4_sizeAsked_0 : decode cX4_sizeAsked 0 = .ok (.aload_n 1, 1) := by decide +kernel
theorem dX4_sizeAsked_1 : decode cX4_sizeAsked 1 = .ok (.bipush 11, 2) := by decide +kernel
theorem dX4_sizeAsked_3 : decode cX4_sizeAsked 3 = .ok (.invokevirtual 13, 3) := by decide +kernel
theorem dX4_sizeAsked_6 : decode cX4_sizeAsked 6 = .ok (.aload_n 0, 1) := by decide +kernel
theorem dX4_sizeAsked_7 : decode cX4_sizeAsked 7 = .ok (.aload_n 1, 1) := by decide +kernel
theorem dX4_sizeAsked_8 : decode cX4_sizeAsked 8 = .ok (.invokespecial 19, 3) := by decide +kernel
theorem dX4_sizeAsked_11 : decode cX4_sizeAsked 11 = .ok (.bipush 10, 2) := by decide +kernel
theorem dX4_sizeAsked_13 : decode cX4_sizeAsked 13 = .ok (.iadd, 1) := by decide +kernel
theorem dX4_sizeAsked_14 : decode cX4_sizeAsked 14 = .ok (.ireturn, 1) := by decide +kernel
set_option maxRecDepth 20000 in
theorem ggX4_signAsked_X9_leave : GoodIn wsX4_signAsked wsX9_leave := goodIn_r _ [6, 7, 8, 27, 28] (by decide +kernel) (by decide +kernel)
set_option maxRecDepth 20000 in
theorem gX4_signAsked_X9_leave : GoodIn wsX4_signAsked (wsV RX4 13 RX9 yX9_leave wsX9_leave) := goodIn_app (goodIn_of _ (by decide +kernel)) ggX4_signAsked_X9_leave
set_option maxRecDepth 20000 in
theorem ggX4_signAsked_X10_signAsked : GoodIn wsX4_signAsked wsX10_signAsked := goodIn_r _ [14, 15, 16, 3, 4, 5, 6, 7, 8, 29, 30, 31, 32, 33, 34, 35, 36, 17, 18, 19, 20, 21, 22, 23, 24, 25, 26, 27, 28] (by decide +kernel) (by decide +kernel)
set_option maxRecDepth 20000 in
theorem gX4_signAsked_X10_signAsked_s23 : GoodIn wsX4_signAsked (va_wsSU RX4 23 yX10_signAsked wsX10_signAsked) := goodIn_app (goodIn_of _ (by decide +kernel)) ggX4_signAsked_X10_signAsked
theorem dX4_signAsked_0 : decode cX4_signAsked 0 = .ok (.aload_n 1, 1) := by decide +kernel
theorem dX4_signAsked_1 : decode cX4_signAsked 1 = .ok (.bipush 21, 2) := by decide +kernel
theorem dX4_signAsked_3 : decode cX4_signAsked 3 = .ok (.invokevirtual 13, 3) := by decide +kernel
theorem dX4_signAsked_6 : decode cX4_signAsked 6 = .ok (.aload_n 0, 1) := by decide +kernel
theorem dX4_signAsked_7 : decode cX4_signAsked 7 = .ok (.aload_n 1, 1) := by decide +kernel
theorem dX4_signAsked_8 : decode cX4_signAsked 8 = .ok (.invokespecial 23, 3) := by decide +kernel
theorem dX4_signAsked_11 : decode cX4_signAsked 11 = .ok (.aload_n 0, 1) := by decide +kernel
theorem dX4_signAsked_12 : decode cX4_signAsked 12 = .ok (.getfield 7, 3) := by decide +kernel
theorem dX4_signAsked_15 : decode cX4_signAsked 15 = .ok (.iadd, 1) := by decide +kernel
theorem dX4_signAsked_16 : decode cX4_signAsked 16 = .ok (.ireturn, 1) := by decide +kernel
theorem dX5_init_0 : decode cX5_init 0 = .ok (.aload_n 0, 1) := by decide +kernel
theorem dX5_init_1 : decode cX5_init 1 = .ok (.invokespecial 3, 3) := by decide +kernel
theorem dX5_init_4 : decode cX5_init 4 = .ok (.aload_n 0, 1) := by decide +kernel
theorem dX5_init_5 : decode cX5_init 5 = .ok (.bipush 24, 2) := by decide +kernel
theorem dX5_init_7 : decode cX5_init 7 = .ok (.newarray .int, 2) := by decide +kernel
theorem dX5_init_9 : decode cX5_init 9 = .ok (.putfield 9, 3) := by decide +kernel
theorem dX5_init_12 : decode cX5_init 12 = .ok (.aload_n 0, 1) := by decide +kernel
theorem dX5_init_13 : decode cX5_init 13 = .ok (.iconst 0, 1) := by decide +kernel
theorem dX5_init_14 : decode cX5_init 14 = .ok (.putfield 15, 3) := by decide +kernel
theorem dX5_init_17 : decode cX5_init 17 = .ok (.aload_n 0, 1) := by decide +kernel
theorem dX5_init_18 : decode cX5_init 18 = .ok (.iconst (-1), 1) := by decide +kernel
theorem dX5_init_19 : decode cX5_init 19 = .ok (.putfield 19, 3) := by decide +kernel
theorem dX5_init_22 : decode cX5_init 22 = .ok (.return_, 1) := by decide +kernel
theorem dX5_isMissing_0 : decode cX5_isMissing 0 = .ok (.aload_n 0, 1) := by decide +kernel
theorem dX5_isMissing_1 : decode cX5_isMissing 1 = .ok (.getfield 19, 3) := by decide +kernel
theorem dX5_isMissing_4 : decode cX5_isMissing 4 = .ok (.iconst (-1), 1) := by decide +kernel
theorem dX5_isMissing_5 : decode cX5_isMissing 5 = .ok (.if_icmp .ne 7, 3) := by decide +kernel
theorem dX5_isMissing_8 : decode cX5_isMissing 8 = .ok (.iconst 1, 1) := by decide +kernel
theorem dX5_isMissing_9 : decode cX5_isMissing 9 = .ok (.goto 4, 3) := by decide +kernel
theorem dX5_isMissing_12 : decode cX5_isMissing 12 = .ok (.iconst 0, 1) := by decide +kernel
theorem dX5_isMissing_13 : decode cX5_isMissing 13 = .ok (.ireturn, 1) := by decide +kernel
theorem dX5_hasItems_0 : decode cX5_hasItems 0 = .ok (.iload_n 1, 1) := by decide +kernel
theorem dX5_hasItems_1 : decode cX5_hasItems 1 = .ok (.ifCond .lt 29, 3) := by decide +kernel
theorem dX5_hasItems_4 : decode cX5_hasItems 4 = .ok (.iload_n 2, 1) := by decide +kernel
theorem dX5_hasItems_5 : decode cX5_hasItems 5 = .ok (.ifCond .lt 25, 3) := by decide +kernel
theorem dX5_hasItems_8 : decode cX5_hasItems 8 = .ok (.iload_n 1, 1) := by decide +kernel
theorem dX5_hasItems_9 : decode cX5_hasItems 9 = .ok (.aload_n 0, 1) := by decide +kernel
theorem dX5_hasItems_10 : decode cX5_hasItems 10 = .ok (.getfield 19, 3) := by decide +kernel
theorem dX5_hasItems_13 : decode cX5_hasItems 13 = .ok (.if_icmp .gt 17, 3) := by decide +kernel
theorem dX5_hasItems_16 : decode cX5_hasItems 16 = .ok (.iload_n 2, 1) := by decide +kernel
theorem dX5_hasItems_17 : decode cX5_hasItems 17 = .ok (.aload_n 0, 1) := by decide +kernel
theorem dX5_hasItems_18 : decode cX5_hasItems 18 = .ok (.getfield 19, 3) := by decide +kernel
theorem dX5_hasItems_21 : decode cX5_hasItems 21 = .ok (.iload_n 1, 1) := by decide +kernel
theorem dX5_hasItems_22 : decode cX5_hasItems 22 = .ok (.isub, 1) := by decide +kernel
theorem dX5_hasItems_23 : decode cX5_hasItems 23 = .ok (.if_icmp .gt 7, 3) := by decide +kernel
theorem dX5_hasItems_26 : decode cX5_hasItems 26 = .ok (.iconst 1, 1) := by decide +kernel
theorem dX5_hasItems_27 : decode cX5_hasItems 27 = .ok (.goto 4, 3) := by decide +kernel
theorem dX5_hasItems_30 : decode cX5_hasItems 30 = .ok (.iconst 0, 1) := by decide +kernel
theorem dX5_hasItems_31 : decode cX5_hasItems 31 = .ok (.ireturn, 1) := by decide +kernel
set_option maxRecDepth 20000 in
theorem ggX5_begin_J7_fill_53178 : GoodIn wsX5_begin wsJ7_fill_53178 := goodIn_r _ [7] (by decide +kernel) (by decide +kernel)
set_option maxRecDepth 20000 in
theorem gX5_begin_J7_fill_53178 : GoodIn wsX5_begin (va_wsS RX5 22 yJ7_fill_53178 wsJ7_fill_53178) := goodIn_app (goodIn_of _ (by decide +kernel)) ggX5_begin_J7_fill_53178
theorem dX5_begin_0 : decode cX5_begin 0 = .ok (.aload_n 0, 1) := by decide +kernel
theorem dX5_begin_1 : decode cX5_begin 1 = .ok (.getfield 9, 3) := by decide +kernel
theorem dX5_begin_4 : decode cX5_begin 4 = .ok (.iconst 0, 1) := by decide +kernel
theorem dX5_begin_5 : decode cX5_begin 5 = .ok (.invokestatic 22, 3) := by decide +kernel
theorem dX5_begin_8 : decode cX5_begin 8 = .ok (.aload_n 0, 1) := by decide +kernel
theorem dX5_begin_9 : decode cX5_begin 9 = .ok (.iload_n 1, 1) := by decide +kernel
theorem dX5_begin_10 : decode cX5_begin 10 = .ok (.putfield 15, 3) := by decide +kernel
theorem dX5_begin_13 : decode cX5_begin 13 = .ok (.aload_n 0, 1) := by decide +kernel
theorem dX5_begin_14 : decode cX5_begin 14 = .ok (.iload_n 2, 1) := by decide +kernel
theorem dX5_begin_15 : decode cX5_begin 15 = .ok (.putfield 19, 3) := by decide +kernel
theorem dX5_begin_18 : decode cX5_begin 18 = .ok (.return_, 1) := by decide +kernel
theorem dX5_put_0 : decode cX5_put 0 = .ok (.aload_n 0, 1) := by decide +kernel
theorem dX5_put_1 : decode cX5_put 1 = .ok (.getfield 9, 3) := by decide +kernel
theorem dX5_put_4 : decode cX5_put 4 = .ok (.iload_n 1, 1) := by decide +kernel
theorem dX5_put_5 : decode cX5_put 5 = .ok (.aload_n 0, 1) := by decide +kernel
theorem dX5_put_6 : decode cX5_put 6 = .ok (.getfield 15, 3) := by decide +kernel
theorem dX5_put_9 : decode cX5_put 9 = .ok (.ifCond .ne 8, 3) := by decide +kernel
theorem dX5_put_12 : decode cX5_put 12 = .ok (.iload_n 2, 1) := by decide +kernel
theorem dX5_put_13 : decode cX5_put 13 = .ok (.i2b, 1) := by decide +kernel
theorem dX5_put_14 : decode cX5_put 14 = .ok (.goto 17, 3) := by decide +kernel
theorem dX5_put_17 : decode cX5_put 17 = .ok (.aload_n 0, 1) := by decide +kernel
theorem dX5_put_18 : decode cX5_put 18 = .ok (.getfield 15, 3) := by decide +kernel
theorem dX5_put_21 : decode cX5_put 21 = .ok (.iconst 1, 1) := by decide +kernel
theorem dX5_put_22 : decode cX5_put 22 = .ok (.if_icmp .ne 8, 3) := by decide +kernel
theorem dX5_put_25 : decode cX5_put 25 = .ok (.iload_n 2, 1) := by decide +kernel
theorem dX5_put_26 : decode cX5_put 26 = .ok (.i2s, 1) := by decide +kernel
theorem dX5_put_27 : decode cX5_put 27 = .ok (.goto 4, 3) := by decide +kernel
theorem dX5_put_30 : decode cX5_put 30 = .ok (.iload_n 2, 1) := by decide +kernel
theorem dX5_put_31 : decode cX5_put 31 = .ok (.iastore, 1) := by decide +kernel
theorem dX5_put_32 : decode cX5_put 32 = .ok (.aload_n 0, 1) := by decide +kernel
theorem dX5_put_33 : decode cX5_put 33 = .ok (.getfield 9, 3) := by decide +kernel
theorem dX5_put_36 : decode cX5_put 36 = .ok (.iload_n 1, 1) := by decide +kernel
theorem dX5_put_37 : decode cX5_put 37 = .ok (.iaload, 1) := by decide +kernel
theorem dX5_put_38 : decode cX5_put 38 = .ok (.ireturn, 1) := by decide +kernel
theorem dX5_end_0 : decode cX5_end 0 = .ok (.aload_n 0, 1) := by decide +kernel
theorem dX5_end_1 : decode cX5_end 1 = .ok (.getfield 19, 3) := by decide +kernel
theorem dX5_end_4 : decode cX5_end 4 = .ok (.istore_n 1, 1) := by decide +kernel
theorem dX5_end_5 : decode cX5_end 5 = .ok (.aload_n 0, 1) := by decide +kernel
theorem dX5_end_6 : decode cX5_end 6 = .ok (.iconst (-1), 1) := by decide +kernel
theorem dX5_end_7 : decode cX5_end 7 = .ok (.putfield 19, 3) := by decide +kernel
theorem dX5_end_10 : decode cX5_end 10 = .ok (.iload_n 1, 1) := by decide +kernel
theorem dX5_end_11 : decode cX5_end 11 = .ok (.ireturn, 1) := by decide +kernel
theorem dX6_init_0 : decode cX6_init 0 = .ok (.aload_n 0, 1) := by decide +kernel
theorem dX6_init_1 : decode cX6_init 1 = .ok (.invokespecial 3, 3) := by decide +kernel
theorem dX6_init_4 : decode cX6_init 4 = .ok (.aload_n 0, 1) := by decide +kernel
theorem dX6_init_5 : decode cX6_init 5 = .ok (.bipush 36, 2) := by decide +kernel
theorem dX6_init_7 : decode cX6_init 7 = .ok (.newarray .int, 2) := by decide +kernel
theorem dX6_init_9 : decode cX6_init 9 = .ok (.putfield 11, 3) := by decide +kernel
theorem dX6_init_12 : decode cX6_init 12 = .ok (.aload_n 0, 1) := by decide +kernel
theorem dX6_init_13 : decode cX6_init 13 = .ok (.bipush 7, 2) := by decide +kernel
theorem dX6_init_15 : decode cX6_init 15 = .ok (.newarray .int, 2) := by decide +kernel
theorem dX6_init_17 : decode cX6_init 17 = .ok (.putfield 15, 3) := by decide +kernel
theorem dX6_init_20 : decode cX6_init 20 = .ok (.aload_n 0, 1) := by decide +kernel
theorem dX6_init_21 : decode cX6_init 21 = .ok (.bipush 7, 2) := by decide +kernel
theorem dX6_init_23 : decode cX6_init 23 = .ok (.bipush 36, 2) := by decide +kernel
theorem dX6_init_25 : decode cX6_init 25 = .ok (.multianewarray 18 2, 4) := by decide +kernel
theorem dX6_init_29 : decode cX6_init 29 = .ok (.putfield 20, 3) := by decide +kernel
theorem dX6_init_32 : decode cX6_init 32 = .ok (.aload_n 0, 1) := by decide +kernel
theorem dX6_init_33 : decode cX6_init 33 = .ok (.bipush 7, 2) := by decide +kernel
theorem dX6_init_35 : decode cX6_init 35 = .ok (.bipush 7, 2) := by decide +kernel
theorem dX6_init_37 : decode cX6_init 37 = .ok (.multianewarray 18 2, 4) := by decide +kernel
theorem dX6_init_41 : decode cX6_init 41 = .ok (.putfield 23, 3) := by decide +kernel
theorem dX6_init_44 : decode cX6_init 44 = .ok (.aload_n 0, 1) := by decide +kernel
theorem dX6_init_45 : decode cX6_init 45 = .ok (.bipush 7, 2) := by decide +kernel
theorem dX6_init_47 : decode cX6_init 47 = .ok (.newarray .int, 2) := by decide +kernel
theorem dX6_init_49 : decode cX6_init 49 = .ok (.putfield 26, 3) := by decide +kernel
theorem dX6_init_52 : decode cX6_init 52 = .ok (.aload_n 0, 1) := by decide +kernel
theorem dX6_init_53 : decode cX6_init 53 = .ok (.iconst 0, 1) := by decide +kernel
theorem dX6_init_54 : decode cX6_init 54 = .ok (.putfield 29, 3) := by decide +kernel
theorem dX6_init_57 : decode cX6_init 57 = .ok (.aload_n 0, 1) := by decide +kernel
theorem dX6_init_58 : decode cX6_init 58 = .ok (.iconst 0, 1) := by decide +kernel
theorem dX6_init_59 : decode cX6_init 59 = .ok (.putfield 33, 3) := by decide +kernel
theorem dX6_init_62 : decode cX6_init 62 = .ok (.aload_n 0, 1) := by decide +kernel
theorem dX6_init_63 : decode cX6_init 63 = .ok (.iconst 0, 1) := by decide +kernel
theorem dX6_init_64 : decode cX6_init 64 = .ok (.putfield 36, 3) := by decide +kernel
theorem dX6_init_67 : decode cX6_init 67 = .ok (.aload_n 0, 1) := by decide +kernel
theorem dX6_init_68 : decode cX6_init 68 = .ok (.aload_n 1, 1) := by decide +kernel
theorem dX6_init_69 : decode cX6_init 69 = .ok (.putfield 39, 3) := by decide +kernel
theorem dX6_init_72 : decode cX6_init 72 = .ok (.aload_n 0, 1) := by decide +kernel
theorem dX6_init_73 : decode cX6_init 73 = .ok (.aload_n 1, 1) := by decide +kernel
theorem dX6_init_74 : decode cX6_init 74 = .ok (.getfield 43, 3) := by decide +kernel
theorem dX6_init_77 : decode cX6_init 77 = .ok (.putfield 48, 3) := by decide +kernel
theorem dX6_init_80 : decode cX6_init 80 = .ok (.return_, 1) := by decide +kernel
theorem dX6_begin_0 : decode cX6_begin 0 = .ok (.aload_n 0, 1) := by decide +kernel
theorem dX6_begin_1 : decode cX6_begin 1 = .ok (.iload_n 1, 1) := by decide +kernel
theorem dX6_begin_2 : decode cX6_begin 2 = .ok (.bipush 36, 2) := by decide +kernel
theorem dX6_begin_4 : decode cX6_begin 4 = .ok (.invokestatic 49, 3) := by decide +kernel
theorem dX6_begin_7 : decode cX6_begin 7 = .ok (.putfield 29, 3) := by decide +kernel
theorem dX6_begin_10 : decode cX6_begin 10 = .ok (.aload_n 0, 1) := by decide +kernel
theorem dX6_begin_11 : decode cX6_begin 11 = .ok (.iconst 0, 1) := by decide +kernel
theorem dX6_begin_12 : decode cX6_begin 12 = .ok (.putfield 33, 3) := by decide +kernel
theorem dX6_begin_15 : decode cX6_begin 15 = .ok (.aload_n 0, 1) := by decide +kernel
theorem dX6_begin_16 : decode cX6_begin 16 = .ok (.iconst 0, 1) := by decide +kernel
theorem dX6_begin_17 : decode cX6_begin 17 = .ok (.putfield 36, 3) := by decide +kernel
theorem dX6_begin_20 : decode cX6_begin 20 = .ok (.return_, 1) := by decide +kernel
set_option maxRecDepth 20000 in
theorem ggX6_forget_J7_fill_53178 : GoodIn wsX6_forget wsJ7_fill_53178 := goodIn_r _ [7] (by decide +kernel) (by decide +kernel)
set_option maxRecDepth 20000 in
theorem gX6_forget_J7_fill_53178 : GoodIn wsX6_forget (va_wsS RX6 55 yJ7_fill_53178 wsJ7_fill_53178) := goodIn_app (goodIn_of _ (by decide +kernel)) ggX6_forget_J7_fill_53178
theorem dX6_forget_0 : decode cX6_forget 0 = .ok (.aload_n 0, 1) := by decide +kernel
theorem dX6_forget_1 : decode cX6_forget 1 = .ok (.iconst 0, 1) := by decide +kernel
theorem dX6_forget_2 : decode cX6_forget 2 = .ok (.putfield 36, 3) := by decide +kernel
theorem dX6_forget_5 : decode cX6_forget 5 = .ok (.iconst 0, 1) := by decide +kernel
theorem dX6_forget_6 : decode cX6_forget 6 = .ok (.istore_n 1, 1) := by decide +kernel
theorem dX6_forget_7 : decode cX6_forget 7 = .ok (.iload_n 1, 1) := by decide +kernel
theorem dX6_forget_8 : decode cX6_forget 8 = .ok (.aload_n 0, 1) := by decide +kernel
theorem dX6_forget_9 : decode cX6_forget 9 = .ok (.getfield 33, 3) := by decide +kernel
theorem dX6_forget_12 : decode cX6_forget 12 = .ok (.if_icmp .ge 19, 3) := by decide +kernel
theorem dX6_forget_15 : decode cX6_forget 15 = .ok (.aload_n 0, 1) := by decide +kernel
theorem dX6_forget_16 : decode cX6_forget 16 = .ok (.getfield 23, 3) := by decide +kernel
theorem dX6_forget_19 : decode cX6_forget 19 = .ok (.iload_n 1, 1) := by decide +kernel
theorem dX6_forget_20 : decode cX6_forget 20 = .ok (.aaload, 1) := by decide +kernel
theorem dX6_forget_21 : decode cX6_forget 21 = .ok (.iconst 0, 1) := by decide +kernel
theorem dX6_forget_22 : decode cX6_forget 22 = .ok (.invokestatic 55, 3) := by decide +kernel
theorem dX6_forget_25 : decode cX6_forget 25 = .ok (.iinc 1 1, 3) := by decide +kernel
theorem dX6_forget_28 : decode cX6_forget 28 = .ok (.goto (-21), 3) := by decide +kernel
theorem dX6_forget_31 : decode cX6_forget 31 = .ok (.return_, 1) := by decide +kernel
theorem dX6_put_0 : decode cX6_put 0 = .ok (.iload_n 1, 1) := by decide +kernel
theorem dX6_put_1 : decode cX6_put 1 = .ok (.ifCond .lt 18, 3) := by decide +kernel
theorem dX6_put_4 : decode cX6_put 4 = .ok (.iload_n 1, 1) := by decide +kernel
theorem dX6_put_5 : decode cX6_put 5 = .ok (.aload_n 0, 1) := by decide +kernel
theorem dX6_put_6 : decode cX6_put 6 = .ok (.getfield 29, 3) := by decide +kernel
theorem dX6_put_9 : decode cX6_put 9 = .ok (.if_icmp .ge 10, 3) := by decide +kernel
theorem dX6_put_12 : decode cX6_put 12 = .ok (.aload_n 0, 1) := by decide +kernel
theorem dX6_put_13 : decode cX6_put 13 = .ok (.getfield 11, 3) := by decide +kernel
theorem dX6_put_16 : decode cX6_put 16 = .ok (.iload_n 1, 1) := by decide +kernel
theorem dX6_put_17 : decode cX6_put 17 = .ok (.iload_n 2, 1) := by decide +kernel
theorem dX6_put_18 : decode cX6_put 18 = .ok (.iastore, 1) := by decide +kernel
theorem dX6_put_19 : decode cX6_put 19 = .ok (.return_, 1) := by decide +kernel
set_option maxRecDepth 20000 in
theorem ggX6_putElement_X6_put : GoodIn wsX6_putElement wsX6_put := goodIn_r _ [8, 9, 10, 11, 12, 13, 14, 15, 16, 17, 18, 19, 20] (by decide +kernel) (by decide +kernel)
set_option maxRecDepth 20000 in
theorem gX6_putElement_X6_put : GoodIn wsX6_putElement (wsV RX6 64 RX6 yX6_put wsX6_put) := goodIn_app (goodIn_of _ (by decide +kernel)) ggX6_putElement_X6_put
theorem dX6_putElement_0 : decode cX6_putElement 0 = .ok (.iload_n 2, 1) := by decide +kernel
theorem dX6_putElement_1 : decode cX6_putElement 1 = .ok (.istore_n 3, 1) := by decide +kernel
theorem dX6_putElement_2 : decode cX6_putElement 2 = .ok (.iconst 0, 1) := by decide +kernel
theorem dX6_putElement_3 : decode cX6_putElement 3 = .ok (.istore 4, 2) := by decide +kernel
theorem dX6_putElement_5 : decode cX6_putElement 5 = .ok (.iload 4, 2) := by decide +kernel
theorem dX6_putElement_7 : decode cX6_putElement 7 = .ok (.aload_n 0, 1) := by decide +kernel
theorem dX6_putElement_8 : decode cX6_putElement 8 = .ok (.getfield 39, 3) := by decide +kernel
theorem dX6_putElement_11 : decode cX6_putElement 11 = .ok (.getfield 61, 3) := by decide +kernel
theorem dX6_putElement_14 : decode cX6_putElement 14 = .ok (.if_icmp .ge 30, 3) := by decide +kernel
theorem dX6_putElement_17 : decode cX6_putElement 17 = .ok (.aload_n 0, 1) := by decide +kernel
theorem dX6_putElement_18 : decode cX6_putElement 18 = .ok (.iload_n 1, 1) := by decide +kernel
theorem dX6_putElement_19 : decode cX6_putElement 19 = .ok (.iload 4, 2) := by decide +kernel
theorem dX6_putElement_21 : decode cX6_putElement 21 = .ok (.iadd, 1) := by decide +kernel
theorem dX6_putElement_22 : decode cX6_putElement 22 = .ok (.iload_n 3, 1) := by decide +kernel
theorem dX6_putElement_23 : decode cX6_putElement 23 = .ok (.aload_n 0, 1) := by decide +kernel
theorem dX6_putElement_24 : decode cX6_putElement 24 = .ok (.getfield 48, 3) := by decide +kernel
theorem dX6_putElement_27 : decode cX6_putElement 27 = .ok (.irem, 1) := by decide +kernel
theorem dX6_putElement_28 : decode cX6_putElement 28 = .ok (.invokevirtual 64, 3) := by decide +kernel
theorem dX6_putElement_31 : decode cX6_putElement 31 = .ok (.iload_n 3, 1) := by decide +kernel
theorem dX6_putElement_32 : decode cX6_putElement 32 = .ok (.aload_n 0, 1) := by decide +kernel
theorem dX6_putElement_33 : decode cX6_putElement 33 = .ok (.getfield 48, 3) := by decide +kernel
theorem dX6_putElement_36 : decode cX6_putElement 36 = .ok (.idiv, 1) := by decide +kernel
theorem dX6_putElement_37 : decode cX6_putElement 37 = .ok (.istore_n 3, 1) := by decide +kernel
theorem dX6_putElement_38 : decode cX6_putElement 38 = .ok (.iinc 4 1, 3) := by decide +kernel
theorem dX6_putElement_41 : decode cX6_putElement 41 = .ok (.goto (-36), 3) := by decide +kernel
theorem dX6_putElement_44 : decode cX6_putElement 44 = .ok (.return_, 1) := by decide +kernel
set_option maxRecDepth 20000 in
theorem ggX6_putNumbers_X6_put : GoodIn wsX6_putNumbers wsX6_put := goodIn_r _ [7, 8, 9, 10, 11, 12, 13, 14, 15, 16, 17, 18, 19] (by decide +kernel) (by decide +kernel)
set_option maxRecDepth 20000 in
theorem gX6_putNumbers_X6_put : GoodIn wsX6_putNumbers (wsV RX6 64 RX6 yX6_put wsX6_put) := goodIn_app (goodIn_of _ (by decide +kernel)) ggX6_putNumbers_X6_put
theorem dX6_putNumbers_0 : decode cX6_putNumbers 0 = .ok (.iconst 0, 1) := by decide +kernel
theorem dX6_putNumbers_1 : decode cX6_putNumbers 1 = .ok (.istore_n 3, 1) := by decide +kernel
theorem dX6_putNumbers_2 : decode cX6_putNumbers 2 = .ok (.iload_n 3, 1) := by decide +kernel
theorem dX6_putNumbers_3 : decode cX6_putNumbers 3 = .ok (.aload_n 0, 1) := by decide +kernel
theorem dX6_putNumbers_4 : decode cX6_putNumbers 4 = .ok (.getfield 39, 3) := by decide +kernel
theorem dX6_putNumbers_7 : decode cX6_putNumbers 7 = .ok (.getfield 61, 3) := by decide +kernel
theorem dX6_putNumbers_10 : decode cX6_putNumbers 10 = .ok (.if_icmp .ge 19, 3) := by decide +kernel
theorem dX6_putNumbers_13 : decode cX6_putNumbers 13 = .ok (.aload_n 0, 1) := by decide +kernel
theorem dX6_putNumbers_14 : decode cX6_putNumbers 14 = .ok (.iload_n 1, 1) := by decide +kernel
theorem dX6_putNumbers_15 : decode cX6_putNumbers 15 = .ok (.iload_n 3, 1) := by decide +kernel
theorem dX6_putNumbers_16 : decode cX6_putNumbers 16 = .ok (.iadd, 1) := by decide +kernel
theorem dX6_putNumbers_17 : decode cX6_putNumbers 17 = .ok (.aload_n 2, 1) := by decide +kernel
theorem dX6_putNumbers_18 : decode cX6_putNumbers 18 = .ok (.iload_n 3, 1) := by decide +kernel
theorem dX6_putNumbers_19 : decode cX6_putNumbers 19 = .ok (.iaload, 1) := by decide +kernel
theorem dX6_putNumbers_20 : decode cX6_putNumbers 20 = .ok (.invokevirtual 64, 3) := by decide +kernel
theorem dX6_putNumbers_23 : decode cX6_putNumbers 23 = .ok (.iinc 3 1, 3) := by decide +kernel
theorem dX6_putNumbers_26 : decode cX6_putNumbers 26 = .ok (.goto (-24), 3) := by decide +kernel
theorem dX6_putNumbers_29 : decode cX6_putNumbers 29 = .ok (.return_, 1) := by decide +kernel
set_option maxRecDepth 20000 in
theorem ggX6_feed_J7_fill_53178 : GoodIn wsX6_feed wsJ7_fill_53178 := goodIn_r _ [8] (by decide +kernel) (by decide +kernel)
set_option maxRecDepth 20000 in
theorem gX6_feed_J7_fill_53178 : GoodIn wsX6_feed (va_wsS RX6 55 yJ7_fill_53178 wsJ7_fill_53178) := goodIn_app (goodIn_of _ (by decide +kernel)) ggX6_feed_J7_fill_53178
set_option maxRecDepth 20000 in
theorem ggX6_feed_X6_takeAway : GoodIn wsX6_feed wsX6_takeAway := goodIn_r _ [13, 14, 15, 16, 4, 17, 1, 2, 18, 37, 38, 39, 40, 41, 42, 43, 44, 45, 46] (by decide +kernel) (by decide +kernel)
set_option maxRecDepth 20000 in
theorem gX6_feed_X6_takeAway : GoodIn wsX6_feed (wsV RX6 68 RX6 yX6_takeAway wsX6_takeAway) := goodIn_app (goodIn_of _ (by decide +kernel)) ggX6_feed_X6_takeAway
set_option maxRecDepth 20000 in
theorem ggX6_feed_X6_firstNumber : GoodIn wsX6_feed wsX6_firstNumber := goodIn_r _ [22, 4, 15, 37, 38, 39, 40, 41, 42, 43, 44, 45, 46] (by decide +kernel) (by decide +kernel)
set_option maxRecDepth 20000 in
theorem gX6_feed_X6_firstNumber : GoodIn wsX6_feed (wsV RX6 72 RX6 yX6_firstNumber wsX6_firstNumber) := goodIn_app (goodIn_of _ (by decide +kernel)) ggX6_feed_X6_firstNumber
set_option maxRecDepth 20000 in
theorem ggX6_feed_X6_mixCode : GoodIn wsX6_feed wsX6_mixCode := goodIn_r _ [26, 1, 2, 27, 28, 37, 38, 39, 40, 41, 42, 43, 44, 45, 46, 47, 48, 49, 50, 51, 52, 53, 54] (by decide +kernel) (by decide +kernel)
set_option maxRecDepth 20000 in
theorem gX6_feed_X6_mixCode : GoodIn wsX6_feed (wsV RX6 76 RX6 yX6_mixCode wsX6_mixCode) := goodIn_app (goodIn_of _ (by decide +kernel)) ggX6_feed_X6_mixCode
set_option maxRecDepth 20000 in
theorem ggX6_feed_X6_keep : GoodIn wsX6_feed wsX6_keep := goodIn_r _ [32, 3, 15, 4, 17, 14, 18, 2, 16, 33, 34, 35, 12, 36, 37, 38, 39, 40, 41, 42, 43, 44, 45, 46] (by decide +kernel) (by decide +kernel)
set_option maxRecDepth 20000 in
theorem gX6_feed_X6_keep : GoodIn wsX6_feed (wsV RX6 79 RX6 yX6_keep wsX6_keep) := goodIn_app (goodIn_of _ (by decide +kernel)) ggX6_feed_X6_keep
theorem dX6_feed_0 : decode cX6_feed 0 = .ok (.aload_n 0, 1) := by decide +kernel
theorem dX6_feed_1 : decode cX6_feed 1 = .ok (.getfield 36, 3) := by decide +kernel
theorem dX6_feed_4 : decode cX6_feed 4 = .ok (.bipush 7, 2) := by decide +kernel
theorem dX6_feed_6 : decode cX6_feed 6 = .ok (.if_icmp .lt 5, 3) := by decide +kernel
theorem dX6_feed_9 : decode cX6_feed 9 = .ok (.iconst 0, 1) := by decide +kernel
theorem dX6_feed_10 : decode cX6_feed 10 = .ok (.ireturn, 1) := by decide +kernel
theorem dX6_feed_11 : decode cX6_feed 11 = .ok (.aload_n 0, 1) := by decide +kernel
