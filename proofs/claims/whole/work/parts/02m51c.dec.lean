theorem dX6_feed_12 : decode cX6_feed 12 = .ok (.getfield 15, 3) := by decide +kernel
theorem dX6_feed_15 : decode cX6_feed 15 = .ok (.iconst 0, 1) := by decide +kernel
theorem dX6_feed_16 : decode cX6_feed 16 = .ok (.invokestatic 55, 3) := by decide +kernel
theorem dX6_feed_19 : decode cX6_feed 19 = .ok (.aload_n 0, 1) := by decide +kernel
theorem dX6_feed_20 : decode cX6_feed 20 = .ok (.getfield 15, 3) := by decide +kernel
theorem dX6_feed_23 : decode cX6_feed 23 = .ok (.aload_n 0, 1) := by decide +kernel
theorem dX6_feed_24 : decode cX6_feed 24 = .ok (.getfield 36, 3) := by decide +kernel
theorem dX6_feed_27 : decode cX6_feed 27 = .ok (.iconst 1, 1) := by decide +kernel
theorem dX6_feed_28 : decode cX6_feed 28 = .ok (.iastore, 1) := by decide +kernel
theorem dX6_feed_29 : decode cX6_feed 29 = .ok (.aload_n 0, 1) := by decide +kernel
theorem dX6_feed_30 : decode cX6_feed 30 = .ok (.dup, 1) := by decide +kernel
theorem dX6_feed_31 : decode cX6_feed 31 = .ok (.getfield 36, 3) := by decide +kernel
theorem dX6_feed_34 : decode cX6_feed 34 = .ok (.iconst 1, 1) := by decide +kernel
theorem dX6_feed_35 : decode cX6_feed 35 = .ok (.iadd, 1) := by decide +kernel
theorem dX6_feed_36 : decode cX6_feed 36 = .ok (.putfield 36, 3) := by decide +kernel
theorem dX6_feed_39 : decode cX6_feed 39 = .ok (.iconst 0, 1) := by decide +kernel
theorem dX6_feed_40 : decode cX6_feed 40 = .ok (.istore_n 1, 1) := by decide +kernel
theorem dX6_feed_41 : decode cX6_feed 41 = .ok (.iload_n 1, 1) := by decide +kernel
theorem dX6_feed_42 : decode cX6_feed 42 = .ok (.aload_n 0, 1) := by decide +kernel
theorem dX6_feed_43 : decode cX6_feed 43 = .ok (.getfield 33, 3) := by decide +kernel
theorem dX6_feed_46 : decode cX6_feed 46 = .ok (.if_icmp .ge 14, 3) := by decide +kernel
theorem dX6_feed_49 : decode cX6_feed 49 = .ok (.aload_n 0, 1) := by decide +kernel
theorem dX6_feed_50 : decode cX6_feed 50 = .ok (.iload_n 1, 1) := by decide +kernel
theorem dX6_feed_51 : decode cX6_feed 51 = .ok (.invokevirtual 68, 3) := by decide +kernel
theorem dX6_feed_54 : decode cX6_feed 54 = .ok (.iinc 1 1, 3) := by decide +kernel
theorem dX6_feed_57 : decode cX6_feed 57 = .ok (.goto (-16), 3) := by decide +kernel
theorem dX6_feed_60 : decode cX6_feed 60 = .ok (.aload_n 0, 1) := by decide +kernel
theorem dX6_feed_61 : decode cX6_feed 61 = .ok (.invokevirtual 72, 3) := by decide +kernel
theorem dX6_feed_64 : decode cX6_feed 64 = .ok (.istore_n 1, 1) := by decide +kernel
theorem dX6_feed_65 : decode cX6_feed 65 = .ok (.iload_n 1, 1) := by decide +kernel
theorem dX6_feed_66 : decode cX6_feed 66 = .ok (.aload_n 0, 1) := by decide +kernel
theorem dX6_feed_67 : decode cX6_feed 67 = .ok (.getfield 29, 3) := by decide +kernel
theorem dX6_feed_70 : decode cX6_feed 70 = .ok (.if_icmp .ne 8, 3) := by decide +kernel
theorem dX6_feed_73 : decode cX6_feed 73 = .ok (.aload_n 0, 1) := by decide +kernel
theorem dX6_feed_74 : decode cX6_feed 74 = .ok (.invokevirtual 76, 3) := by decide +kernel
theorem dX6_feed_77 : decode cX6_feed 77 = .ok (.ireturn, 1) := by decide +kernel
theorem dX6_feed_78 : decode cX6_feed 78 = .ok (.aload_n 0, 1) := by decide +kernel
theorem dX6_feed_79 : decode cX6_feed 79 = .ok (.iload_n 1, 1) := by decide +kernel
theorem dX6_feed_80 : decode cX6_feed 80 = .ok (.invokevirtual 79, 3) := by decide +kernel
theorem dX6_feed_83 : decode cX6_feed 83 = .ok (.iconst 0, 1) := by decide +kernel
theorem dX6_feed_84 : decode cX6_feed 84 = .ok (.ireturn, 1) := by decide +kernel
theorem dX6_takeAway_0 : decode cX6_takeAway 0 = .ok (.aload_n 0, 1) := by decide +kernel
theorem dX6_takeAway_1 : decode cX6_takeAway 1 = .ok (.getfield 48, 3) := by decide +kernel
theorem dX6_takeAway_4 : decode cX6_takeAway 4 = .ok (.aload_n 0, 1) := by decide +kernel
theorem dX6_takeAway_5 : decode cX6_takeAway 5 = .ok (.getfield 11, 3) := by decide +kernel
theorem dX6_takeAway_8 : decode cX6_takeAway 8 = .ok (.aload_n 0, 1) := by decide +kernel
theorem dX6_takeAway_9 : decode cX6_takeAway 9 = .ok (.getfield 26, 3) := by decide +kernel
theorem dX6_takeAway_12 : decode cX6_takeAway 12 = .ok (.iload_n 1, 1) := by decide +kernel
theorem dX6_takeAway_13 : decode cX6_takeAway 13 = .ok (.iaload, 1) := by decide +kernel
theorem dX6_takeAway_14 : decode cX6_takeAway 14 = .ok (.iaload, 1) := by decide +kernel
theorem dX6_takeAway_15 : decode cX6_takeAway 15 = .ok (.isub, 1) := by decide +kernel
theorem dX6_takeAway_16 : decode cX6_takeAway 16 = .ok (.istore_n 2, 1) := by decide +kernel
theorem dX6_takeAway_17 : decode cX6_takeAway 17 = .ok (.iload_n 2, 1) := by decide +kernel
theorem dX6_takeAway_18 : decode cX6_takeAway 18 = .ok (.aload_n 0, 1) := by decide +kernel
theorem dX6_takeAway_19 : decode cX6_takeAway 19 = .ok (.getfield 48, 3) := by decide +kernel
theorem dX6_takeAway_22 : decode cX6_takeAway 22 = .ok (.if_icmp .ne 4, 3) := by decide +kernel
theorem dX6_takeAway_25 : decode cX6_takeAway 25 = .ok (.return_, 1) := by decide +kernel
theorem dX6_takeAway_26 : decode cX6_takeAway 26 = .ok (.aload_n 0, 1) := by decide +kernel
theorem dX6_takeAway_27 : decode cX6_takeAway 27 = .ok (.getfield 26, 3) := by decide +kernel
theorem dX6_takeAway_30 : decode cX6_takeAway 30 = .ok (.iload_n 1, 1) := by decide +kernel
theorem dX6_takeAway_31 : decode cX6_takeAway 31 = .ok (.iaload, 1) := by decide +kernel
theorem dX6_takeAway_32 : decode cX6_takeAway 32 = .ok (.istore_n 3, 1) := by decide +kernel
theorem dX6_takeAway_33 : decode cX6_takeAway 33 = .ok (.iload_n 3, 1) := by decide +kernel
theorem dX6_takeAway_34 : decode cX6_takeAway 34 = .ok (.aload_n 0, 1) := by decide +kernel
theorem dX6_takeAway_35 : decode cX6_takeAway 35 = .ok (.getfield 29, 3) := by decide +kernel
theorem dX6_takeAway_38 : decode cX6_takeAway 38 = .ok (.if_icmp .ge 37, 3) := by decide +kernel
theorem dX6_takeAway_41 : decode cX6_takeAway 41 = .ok (.aload_n 0, 1) := by decide +kernel
theorem dX6_takeAway_42 : decode cX6_takeAway 42 = .ok (.getfield 11, 3) := by decide +kernel
theorem dX6_takeAway_45 : decode cX6_takeAway 45 = .ok (.iload_n 3, 1) := by decide +kernel
theorem dX6_takeAway_46 : decode cX6_takeAway 46 = .ok (.aload_n 0, 1) := by decide +kernel
theorem dX6_takeAway_47 : decode cX6_takeAway 47 = .ok (.getfield 11, 3) := by decide +kernel
theorem dX6_takeAway_50 : decode cX6_takeAway 50 = .ok (.iload_n 3, 1) := by decide +kernel
theorem dX6_takeAway_51 : decode cX6_takeAway 51 = .ok (.iaload, 1) := by decide +kernel
theorem dX6_takeAway_52 : decode cX6_takeAway 52 = .ok (.iload_n 2, 1) := by decide +kernel
theorem dX6_takeAway_53 : decode cX6_takeAway 53 = .ok (.aload_n 0, 1) := by decide +kernel
theorem dX6_takeAway_54 : decode cX6_takeAway 54 = .ok (.getfield 20, 3) := by decide +kernel
theorem dX6_takeAway_57 : decode cX6_takeAway 57 = .ok (.iload_n 1, 1) := by decide +kernel
theorem dX6_takeAway_58 : decode cX6_takeAway 58 = .ok (.aaload, 1) := by decide +kernel
theorem dX6_takeAway_59 : decode cX6_takeAway 59 = .ok (.iload_n 3, 1) := by decide +kernel
theorem dX6_takeAway_60 : decode cX6_takeAway 60 = .ok (.iaload, 1) := by decide +kernel
theorem dX6_takeAway_61 : decode cX6_takeAway 61 = .ok (.imul, 1) := by decide +kernel
theorem dX6_takeAway_62 : decode cX6_takeAway 62 = .ok (.iadd, 1) := by decide +kernel
theorem dX6_takeAway_63 : decode cX6_takeAway 63 = .ok (.aload_n 0, 1) := by decide +kernel
theorem dX6_takeAway_64 : decode cX6_takeAway 64 = .ok (.getfield 48, 3) := by decide +kernel
theorem dX6_takeAway_67 : decode cX6_takeAway 67 = .ok (.irem, 1) := by decide +kernel
theorem dX6_takeAway_68 : decode cX6_takeAway 68 = .ok (.iastore, 1) := by decide +kernel
theorem dX6_takeAway_69 : decode cX6_takeAway 69 = .ok (.iinc 3 1, 3) := by decide +kernel
theorem dX6_takeAway_72 : decode cX6_takeAway 72 = .ok (.goto (-39), 3) := by decide +kernel
theorem dX6_takeAway_75 : decode cX6_takeAway 75 = .ok (.iconst 0, 1) := by decide +kernel
theorem dX6_takeAway_76 : decode cX6_takeAway 76 = .ok (.istore_n 3, 1) := by decide +kernel
theorem dX6_takeAway_77 : decode cX6_takeAway 77 = .ok (.iload_n 3, 1) := by decide +kernel
theorem dX6_takeAway_78 : decode cX6_takeAway 78 = .ok (.aload_n 0, 1) := by decide +kernel
theorem dX6_takeAway_79 : decode cX6_takeAway 79 = .ok (.getfield 36, 3) := by decide +kernel
theorem dX6_takeAway_82 : decode cX6_takeAway 82 = .ok (.if_icmp .ge 37, 3) := by decide +kernel
theorem dX6_takeAway_85 : decode cX6_takeAway 85 = .ok (.aload_n 0, 1) := by decide +kernel
theorem dX6_takeAway_86 : decode cX6_takeAway 86 = .ok (.getfield 15, 3) := by decide +kernel
theorem dX6_takeAway_89 : decode cX6_takeAway 89 = .ok (.iload_n 3, 1) := by decide +kernel
theorem dX6_takeAway_90 : decode cX6_takeAway 90 = .ok (.aload_n 0, 1) := by decide +kernel
theorem dX6_takeAway_91 : decode cX6_takeAway 91 = .ok (.getfield 15, 3) := by decide +kernel
theorem dX6_takeAway_94 : decode cX6_takeAway 94 = .ok (.iload_n 3, 1) := by decide +kernel
theorem dX6_takeAway_95 : decode cX6_takeAway 95 = .ok (.iaload, 1) := by decide +kernel
theorem dX6_takeAway_96 : decode cX6_takeAway 96 = .ok (.iload_n 2, 1) := by decide +kernel
theorem dX6_takeAway_97 : decode cX6_takeAway 97 = .ok (.aload_n 0, 1) := by decide +kernel
theorem dX6_takeAway_98 : decode cX6_takeAway 98 = .ok (.getfield 23, 3) := by decide +kernel
theorem dX6_takeAway_101 : decode cX6_takeAway 101 = .ok (.iload_n 1, 1) := by decide +kernel
theorem dX6_takeAway_102 : decode cX6_takeAway 102 = .ok (.aaload, 1) := by decide +kernel
theorem dX6_takeAway_103 : decode cX6_takeAway 103 = .ok (.iload_n 3, 1) := by decide +kernel
theorem dX6_takeAway_104 : decode cX6_takeAway 104 = .ok (.iaload, 1) := by decide +kernel
theorem dX6_takeAway_105 : decode cX6_takeAway 105 = .ok (.imul, 1) := by decide +kernel
theorem dX6_takeAway_106 : decode cX6_takeAway 106 = .ok (.iadd, 1) := by decide +kernel
theorem dX6_takeAway_107 : decode cX6_takeAway 107 = .ok (.aload_n 0, 1) := by decide +kernel
theorem dX6_takeAway_108 : decode cX6_takeAway 108 = .ok (.getfield 48, 3) := by decide +kernel
theorem dX6_takeAway_111 : decode cX6_takeAway 111 = .ok (.irem, 1) := by decide +kernel
theorem dX6_takeAway_112 : decode cX6_takeAway 112 = .ok (.iastore, 1) := by decide +kernel
theorem dX6_takeAway_113 : decode cX6_takeAway 113 = .ok (.iinc 3 1, 3) := by decide +kernel
theorem dX6_takeAway_116 : decode cX6_takeAway 116 = .ok (.goto (-39), 3) := by decide +kernel
theorem dX6_takeAway_119 : decode cX6_takeAway 119 = .ok (.return_, 1) := by decide +kernel
theorem dX6_firstNumber_0 : decode cX6_firstNumber 0 = .ok (.iconst 0, 1) := by decide +kernel
theorem dX6_firstNumber_1 : decode cX6_firstNumber 1 = .ok (.istore_n 1, 1) := by decide +kernel
theorem dX6_firstNumber_2 : decode cX6_firstNumber 2 = .ok (.iload_n 1, 1) := by decide +kernel
theorem dX6_firstNumber_3 : decode cX6_firstNumber 3 = .ok (.aload_n 0, 1) := by decide +kernel
theorem dX6_firstNumber_4 : decode cX6_firstNumber 4 = .ok (.getfield 29, 3) := by decide +kernel
theorem dX6_firstNumber_7 : decode cX6_firstNumber 7 = .ok (.if_icmp .ge 18, 3) := by decide +kernel
theorem dX6_firstNumber_10 : decode cX6_firstNumber 10 = .ok (.aload_n 0, 1) := by decide +kernel
theorem dX6_firstNumber_11 : decode cX6_firstNumber 11 = .ok (.getfield 11, 3) := by decide +kernel
theorem dX6_firstNumber_14 : decode cX6_firstNumber 14 = .ok (.iload_n 1, 1) := by decide +kernel
theorem dX6_firstNumber_15 : decode cX6_firstNumber 15 = .ok (.iaload, 1) := by decide +kernel
theorem dX6_firstNumber_16 : decode cX6_firstNumber 16 = .ok (.ifCond .ne 9, 3) := by decide +kernel
theorem dX6_firstNumber_19 : decode cX6_firstNumber 19 = .ok (.iinc 1 1, 3) := by decide +kernel
theorem dX6_firstNumber_22 : decode cX6_firstNumber 22 = .ok (.goto (-20), 3) := by decide +kernel
theorem dX6_firstNumber_25 : decode cX6_firstNumber 25 = .ok (.iload_n 1, 1) := by decide +kernel
theorem dX6_firstNumber_26 : decode cX6_firstNumber 26 = .ok (.ireturn, 1) := by decide +kernel
theorem dX6_mixCode_0 : decode cX6_mixCode 0 = .ok (.iconst 0, 1) := by decide +kernel
theorem dX6_mixCode_1 : decode cX6_mixCode 1 = .ok (.istore_n 1, 1) := by decide +kernel
theorem dX6_mixCode_2 : decode cX6_mixCode 2 = .ok (.iconst 0, 1) := by decide +kernel
theorem dX6_mixCode_3 : decode cX6_mixCode 3 = .ok (.istore_n 2, 1) := by decide +kernel
theorem dX6_mixCode_4 : decode cX6_mixCode 4 = .ok (.iload_n 2, 1) := by decide +kernel
theorem dX6_mixCode_5 : decode cX6_mixCode 5 = .ok (.aload_n 0, 1) := by decide +kernel
theorem dX6_mixCode_6 : decode cX6_mixCode 6 = .ok (.getfield 36, 3) := by decide +kernel
theorem dX6_mixCode_9 : decode cX6_mixCode 9 = .ok (.if_icmp .ge 28, 3) := by decide +kernel
theorem dX6_mixCode_12 : decode cX6_mixCode 12 = .ok (.iload_n 1, 1) := by decide +kernel
theorem dX6_mixCode_13 : decode cX6_mixCode 13 = .ok (.aload_n 0, 1) := by decide +kernel
theorem dX6_mixCode_14 : decode cX6_mixCode 14 = .ok (.getfield 15, 3) := by decide +kernel
theorem dX6_mixCode_17 : decode cX6_mixCode 17 = .ok (.iload_n 2, 1) := by decide +kernel
theorem dX6_mixCode_18 : decode cX6_mixCode 18 = .ok (.iaload, 1) := by decide +kernel
theorem dX6_mixCode_19 : decode cX6_mixCode 19 = .ok (.aload_n 0, 1) := by decide +kernel
theorem dX6_mixCode_20 : decode cX6_mixCode 20 = .ok (.getfield 39, 3) := by decide +kernel
theorem dX6_mixCode_23 : decode cX6_mixCode 23 = .ok (.getfield 82, 3) := by decide +kernel
theorem dX6_mixCode_26 : decode cX6_mixCode 26 = .ok (.iload_n 2, 1) := by decide +kernel
theorem dX6_mixCode_27 : decode cX6_mixCode 27 = .ok (.iaload, 1) := by decide +kernel
theorem dX6_mixCode_28 : decode cX6_mixCode 28 = .ok (.imul, 1) := by decide +kernel
theorem dX6_mixCode_29 : decode cX6_mixCode 29 = .ok (.iadd, 1) := by decide +kernel
theorem dX6_mixCode_30 : decode cX6_mixCode 30 = .ok (.istore_n 1, 1) := by decide +kernel
theorem dX6_mixCode_31 : decode cX6_mixCode 31 = .ok (.iinc 2 1, 3) := by decide +kernel
theorem dX6_mixCode_34 : decode cX6_mixCode 34 = .ok (.goto (-30), 3) := by decide +kernel
theorem dX6_mixCode_37 : decode cX6_mixCode 37 = .ok (.iload_n 1, 1) := by decide +kernel
theorem dX6_mixCode_38 : decode cX6_mixCode 38 = .ok (.ireturn, 1) := by decide +kernel
set_option maxRecDepth 20000 in
theorem ggX6_keep_X6_inverseNumber : GoodIn wsX6_keep wsX6_inverseNumber := goodIn_r _ [13, 5, 14, 15, 16, 17, 18, 19, 20, 21, 22, 23] (by decide +kernel) (by decide +kernel)
set_option maxRecDepth 20000 in
theorem gX6_keep_X6_inverseNumber : GoodIn wsX6_keep (wsV RX6 85 RX6 yX6_inverseNumber wsX6_inverseNumber) := goodIn_app (goodIn_of _ (by decide +kernel)) ggX6_keep_X6_inverseNumber
theorem dX6_keep_0 : decode cX6_keep 0 = .ok (.aload_n 0, 1) := by decide +kernel
theorem dX6_keep_1 : decode cX6_keep 1 = .ok (.getfield 33, 3) := by decide +kernel
theorem dX6_keep_4 : decode cX6_keep 4 = .ok (.bipush 7, 2) := by decide +kernel
theorem dX6_keep_6 : decode cX6_keep 6 = .ok (.if_icmp .lt 4, 3) := by decide +kernel
theorem dX6_keep_9 : decode cX6_keep 9 = .ok (.return_, 1) := by decide +kernel
theorem dX6_keep_10 : decode cX6_keep 10 = .ok (.aload_n 0, 1) := by decide +kernel
theorem dX6_keep_11 : decode cX6_keep 11 = .ok (.aload_n 0, 1) := by decide +kernel
theorem dX6_keep_12 : decode cX6_keep 12 = .ok (.getfield 11, 3) := by decide +kernel
theorem dX6_keep_15 : decode cX6_keep 15 = .ok (.iload_n 1, 1) := by decide +kernel
theorem dX6_keep_16 : decode cX6_keep 16 = .ok (.iaload, 1) := by decide +kernel
theorem dX6_keep_17 : decode cX6_keep 17 = .ok (.invokevirtual 85, 3) := by decide +kernel
theorem dX6_keep_20 : decode cX6_keep 20 = .ok (.istore_n 2, 1) := by decide +kernel
theorem dX6_keep_21 : decode cX6_keep 21 = .ok (.iconst 0, 1) := by decide +kernel
theorem dX6_keep_22 : decode cX6_keep 22 = .ok (.istore_n 3, 1) := by decide +kernel
theorem dX6_keep_23 : decode cX6_keep 23 = .ok (.iload_n 3, 1) := by decide +kernel
theorem dX6_keep_24 : decode cX6_keep 24 = .ok (.aload_n 0, 1) := by decide +kernel
theorem dX6_keep_25 : decode cX6_keep 25 = .ok (.getfield 29, 3) := by decide +kernel
theorem dX6_keep_28 : decode cX6_keep 28 = .ok (.if_icmp .ge 33, 3) := by decide +kernel
theorem dX6_keep_31 : decode cX6_keep 31 = .ok (.aload_n 0, 1) := by decide +kernel
theorem dX6_keep_32 : decode cX6_keep 32 = .ok (.getfield 20, 3) := by decide +kernel
theorem dX6_keep_35 : decode cX6_keep 35 = .ok (.aload_n 0, 1) := by decide +kernel
theorem dX6_keep_36 : decode cX6_keep 36 = .ok (.getfield 33, 3) := by decide +kernel
theorem dX6_keep_39 : decode cX6_keep 39 = .ok (.aaload, 1) := by decide +kernel
theorem dX6_keep_40 : decode cX6_keep 40 = .ok (.iload_n 3, 1) := by decide +kernel
theorem dX6_keep_41 : decode cX6_keep 41 = .ok (.aload_n 0, 1) := by decide +kernel
theorem dX6_keep_42 : decode cX6_keep 42 = .ok (.getfield 11, 3) := by decide +kernel
theorem dX6_keep_45 : decode cX6_keep 45 = .ok (.iload_n 3, 1) := by decide +kernel
theorem dX6_keep_46 : decode cX6_keep 46 = .ok (.iaload, 1) := by decide +kernel
theorem dX6_keep_47 : decode cX6_keep 47 = .ok (.iload_n 2, 1) := by decide +kernel
theorem dX6_keep_48 : decode cX6_keep 48 = .ok (.imul, 1) := by decide +kernel
theorem dX6_keep_49 : decode cX6_keep 49 = .ok (.aload_n 0, 1) := by decide +kernel
theorem dX6_keep_50 : decode cX6_keep 50 = .ok (.getfield 48, 3) := by decide +kernel
theorem dX6_keep_53 : decode cX6_keep 53 = .ok (.irem, 1) := by decide +kernel
theorem dX6_keep_54 : decode cX6_keep 54 = .ok (.iastore, 1) := by decide +kernel
theorem dX6_keep_55 : decode cX6_keep 55 = .ok (.iinc 3 1, 3) := by decide +kernel
theorem dX6_keep_58 : decode cX6_keep 58 = .ok (.goto (-35), 3) := by decide +kernel
theorem dX6_keep_61 : decode cX6_keep 61 = .ok (.iconst 0, 1) := by decide +kernel
theorem dX6_keep_62 : decode cX6_keep 62 = .ok (.istore_n 3, 1) := by decide +kernel
theorem dX6_keep_63 : decode cX6_keep 63 = .ok (.iload_n 3, 1) := by decide +kernel
theorem dX6_keep_64 : decode cX6_keep 64 = .ok (.bipush 7, 2) := by decide +kernel
theorem dX6_keep_66 : decode cX6_keep 66 = .ok (.if_icmp .ge 33, 3) := by decide +kernel
theorem dX6_keep_69 : decode cX6_keep 69 = .ok (.aload_n 0, 1) := by decide +kernel
theorem dX6_keep_70 : decode cX6_keep 70 = .ok (.getfield 23, 3) := by decide +kernel
theorem dX6_keep_73 : decode cX6_keep 73 = .ok (.aload_n 0, 1) := by decide +kernel
theorem dX6_keep_74 : decode cX6_keep 74 = .ok (.getfield 33, 3) := by decide +kernel
theorem dX6_keep_77 : decode cX6_keep 77 = .ok (.aaload, 1) := by decide +kernel
theorem dX6_keep_78 : decode cX6_keep 78 = .ok (.iload_n 3, 1) := by decide +kernel
theorem dX6_keep_79 : decode cX6_keep 79 = .ok (.aload_n 0, 1) := by decide +kernel
theorem dX6_keep_80 : decode cX6_keep 80 = .ok (.getfield 15, 3) := by decide +kernel
theorem dX6_keep_83 : decode cX6_keep 83 = .ok (.iload_n 3, 1) := by decide +kernel
theorem dX6_keep_84 : decode cX6_keep 84 = .ok (.iaload, 1) := by decide +kernel
theorem dX6_keep_85 : decode cX6_keep 85 = .ok (.iload_n 2, 1) := by decide +kernel
theorem dX6_keep_86 : decode cX6_keep 86 = .ok (.imul, 1) := by decide +kernel
theorem dX6_keep_87 : decode cX6_keep 87 = .ok (.aload_n 0, 1) := by decide +kernel
theorem dX6_keep_88 : decode cX6_keep 88 = .ok (.getfield 48, 3) := by decide +kernel
theorem dX6_keep_91 : decode cX6_keep 91 = .ok (.irem, 1) := by decide +kernel
theorem dX6_keep_92 : decode cX6_keep 92 = .ok (.iastore, 1) := by decide +kernel
theorem dX6_keep_93 : decode cX6_keep 93 = .ok (.iinc 3 1, 3) := by decide +kernel
theorem dX6_keep_96 : decode cX6_keep 96 = .ok (.goto (-33), 3) := by decide +kernel
theorem dX6_keep_99 : decode cX6_keep 99 = .ok (.aload_n 0, 1) := by decide +kernel
theorem dX6_keep_100 : decode cX6_keep 100 = .ok (.getfield 26, 3) := by decide +kernel
theorem dX6_keep_103 : decode cX6_keep 103 = .ok (.aload_n 0, 1) := by decide +kernel
theorem dX6_keep_104 : decode cX6_keep 104 = .ok (.getfield 33, 3) := by decide +kernel
theorem dX6_keep_107 : decode cX6_keep 107 = .ok (.iload_n 1, 1) := by decide +kernel
theorem dX6_keep_108 : decode cX6_keep 108 = .ok (.iastore, 1) := by decide +kernel
theorem dX6_keep_109 : decode cX6_keep 109 = .ok (.aload_n 0, 1) := by decide +kernel
theorem dX6_keep_110 : decode cX6_keep 110 = .ok (.dup, 1) := by decide +kernel
theorem dX6_keep_111 : decode cX6_keep 111 = .ok (.getfield 33, 3) := by decide +kernel
theorem dX6_keep_114 : decode cX6_keep 114 = .ok (.iconst 1, 1) := by decide +kernel
theorem dX6_keep_115 : decode cX6_keep 115 = .ok (.iadd, 1) := by decide +kernel
theorem dX6_keep_116 : decode cX6_keep 116 = .ok (.putfield 33, 3) := by decide +kernel
theorem dX6_keep_119 : decode cX6_keep 119 = .ok (.return_, 1) := by decide +kernel
theorem dX6_inverseNumber_0 : decode cX6_inverseNumber 0 = .ok (.iconst 1, 1) := by decide +kernel
theorem dX6_inverseNumber_1 : decode cX6_inverseNumber 1 = .ok (.istore_n 2, 1) := by decide +kernel
theorem dX6_inverseNumber_2 : decode cX6_inverseNumber 2 = .ok (.iload_n 2, 1) := by decide +kernel
theorem dX6_inverseNumber_3 : decode cX6_inverseNumber 3 = .ok (.aload_n 0, 1) := by decide +kernel
theorem dX6_inverseNumber_4 : decode cX6_inverseNumber 4 = .ok (.getfield 48, 3) := by decide +kernel
theorem dX6_inverseNumber_7 : decode cX6_inverseNumber 7 = .ok (.if_icmp .ge 21, 3) := by decide +kernel
theorem dX6_inverseNumber_10 : decode cX6_inverseNumber 10 = .ok (.iload_n 2, 1) := by decide +kernel
theorem dX6_inverseNumber_11 : decode cX6_inverseNumber 11 = .ok (.iload_n 1, 1) := by decide +kernel
theorem dX6_inverseNumber_12 : decode cX6_inverseNumber 12 = .ok (.imul, 1) := by decide +kernel
theorem dX6_inverseNumber_13 : decode cX6_inverseNumber 13 = .ok (.aload_n 0, 1) := by decide +kernel
theorem dX6_inverseNumber_14 : decode cX6_inverseNumber 14 = .ok (.getfield 48, 3) := by decide +kernel
theorem dX6_inverseNumber_17 : decode cX6_inverseNumber 17 = .ok (.irem, 1) := by decide +kernel
theorem dX6_inverseNumber_18 : decode cX6_inverseNumber 18 = .ok (.iconst 1, 1) := by decide +kernel
theorem dX6_inverseNumber_19 : decode cX6_inverseNumber 19 = .ok (.if_icmp .eq 9, 3) := by decide +kernel
theorem dX6_inverseNumber_22 : decode cX6_inverseNumber 22 = .ok (.iinc 2 1, 3) := by decide +kernel
theorem dX6_inverseNumber_25 : decode cX6_inverseNumber 25 = .ok (.goto (-23), 3) := by decide +kernel
theorem dX6_inverseNumber_28 : decode cX6_inverseNumber 28 = .ok (.iload_n 2, 1) := by decide +kernel
theorem dX6_inverseNumber_29 : decode cX6_inverseNumber 29 = .ok (.ireturn, 1) := by decide +kernel
set_option maxRecDepth 20000 in
theorem ggX7_init_X4_init : GoodIn wsX7_init wsX4_init := goodIn_r _ [11, 12, 13, 14, 15, 16, 17, 18, 19, 20, 21, 22, 23, 32, 33, 34, 35, 36, 37, 38, 39, 40, 41, 24, 25, 26, 27, 28, 29, 30, 31] (by decide +kernel) (by decide +kernel)
set_option maxRecDepth 20000 in
theorem gX7_init_X4_init : GoodIn wsX7_init (wsX4_init) := ggX7_init_X4_init
theorem dX7_init_0 : decode cX7_init 0 = .ok (.aload_n 0, 1) := by decide +kernel
theorem dX7_init_1 : decode cX7_init 1 = .ok (.aload_n 1, 1) := by decide +kernel
theorem dX7_init_2 : decode cX7_init 2 = .ok (.getfield 1, 3) := by decide +kernel
theorem dX7_init_5 : decode cX7_init 5 = .ok (.aload_n 1, 1) := by decide +kernel
theorem dX7_init_6 : decode cX7_init 6 = .ok (.getfield 7, 3) := by decide +kernel
theorem dX7_init_9 : decode cX7_init 9 = .ok (.aload_n 1, 1) := by decide +kernel
theorem dX7_init_10 : decode cX7_init 10 = .ok (.getfield 11, 3) := by decide +kernel
theorem dX7_init_13 : decode cX7_init 13 = .ok (.aload_n 1, 1) := by decide +kernel
theorem dX7_init_14 : decode cX7_init 14 = .ok (.getfield 14, 3) := by decide +kernel
theorem dX7_init_17 : decode cX7_init 17 = .ok (.invokespecial 17, 3) := by decide +kernel
theorem dX7_init_20 : decode cX7_init 20 = .ok (.return_, 1) := by decide +kernel
theorem dX7_kindTold_0 : decode cX7_kindTold 0 = .ok (.iconst 3, 1) := by decide +kernel
theorem dX7_kindTold_1 : decode cX7_kindTold 1 = .ok (.ireturn, 1) := by decide +kernel
set_option maxRecDepth 20000 in
theorem ggX7_sizeAsked_X9_leave : GoodIn wsX7_sizeAsked wsX9_leave := goodIn_r _ [5, 6, 7, 23, 24] (by decide +kernel) (by decide +kernel)
set_option maxRecDepth 20000 in
theorem gX7_sizeAsked_X9_leave : GoodIn wsX7_sizeAsked (wsV RX7 23 RX9 yX9_leave wsX9_leave) := goodIn_app (goodIn_of _ (by decide +kernel)) ggX7_sizeAsked_X9_leave
set_option maxRecDepth 20000 in
theorem ggX7_sizeAsked_X4_sizeAsked : GoodIn wsX7_sizeAsked wsX4_sizeAsked := goodIn_r _ [13, 14, 2, 3, 4, 5, 6, 7, 15, 16, 17, 18, 19, 20, 21, 22, 23, 24, 25, 26, 27, 28, 29, 30, 31, 32, 33, 34, 35, 36, 37, 38, 39, 40, 41, 42] (by decide +kernel) (by decide +kernel)
set_option maxRecDepth 20000 in
theorem gX7_sizeAsked_X4_sizeAsked_s29 : GoodIn wsX7_sizeAsked (va_wsSU RX7 29 yX4_sizeAsked wsX4_sizeAsked) := goodIn_app (goodIn_of _ (by decide +kernel)) ggX7_sizeAsked_X4_sizeAsked
theorem dX7_sizeAsked_0 : decode cX7_sizeAsked 0 = .ok (.aload_n 1, 1) := by decide +kernel
theorem dX7_sizeAsked_1 : decode cX7_sizeAsked 1 = .ok (.bipush 12, 2) := by decide +kernel
theorem dX7_sizeAsked_3 : decode cX7_sizeAsked 3 = .ok (.invokevirtual 23, 3) := by decide +kernel
theorem dX7_sizeAsked_6 : decode cX7_sizeAsked 6 = .ok (.aload_n 0, 1) := by decide +kernel
theorem dX7_sizeAsked_7 : decode cX7_sizeAsked 7 = .ok (.aload_n 1, 1) := by decide +kernel
theorem dX7_sizeAsked_8 : decode cX7_sizeAsked 8 = .ok (.invokespecial 29, 3) := by decide +kernel
theorem dX7_sizeAsked_11 : decode cX7_sizeAsked 11 = .ok (.iconst 2, 1) := by decide +kernel
theorem dX7_sizeAsked_12 : decode cX7_sizeAsked 12 = .ok (.imul, 1) := by decide +kernel
theorem dX7_sizeAsked_13 : decode cX7_sizeAsked 13 = .ok (.ireturn, 1) := by decide +kernel
set_option maxRecDepth 20000 in
theorem ggX7_signAsked_X9_leave : GoodIn wsX7_signAsked wsX9_leave := goodIn_r _ [7, 8, 9, 44, 45] (by decide +kernel) (by decide +kernel)
set_option maxRecDepth 20000 in
theorem gX7_signAsked_X9_leave : GoodIn wsX7_signAsked (wsV RX7 23 RX9 yX9_leave wsX9_leave) := goodIn_app (goodIn_of _ (by decide +kernel)) ggX7_signAsked_X9_leave
set_option maxRecDepth 20000 in
theorem ggX7_signAsked_X4_signAsked : GoodIn wsX7_signAsked wsX4_signAsked := goodIn_r _ [15, 16, 17, 4, 5, 6, 7, 8, 9, 18, 19, 20, 21, 22, 23, 24, 25, 34, 35, 36, 37, 38, 39, 40, 41, 42, 43, 44, 45, 26, 27, 28, 29, 30, 31, 32, 33] (by decide +kernel) (by decide +kernel)
set_option maxRecDepth 20000 in
theorem gX7_signAsked_X4_signAsked_s33 : GoodIn wsX7_signAsked (va_wsSU RX7 33 yX4_signAsked wsX4_signAsked) := goodIn_app (goodIn_of _ (by decide +kernel)) ggX7_signAsked_X4_signAsked
theorem dX7_signAsked_0 : decode cX7_signAsked 0 = .ok (.aload_n 1, 1) := by decide +kernel
theorem dX7_signAsked_1 : decode cX7_signAsked 1 = .ok (.bipush 22, 2) := by decide +kernel
theorem dX7_signAsked_3 : decode cX7_signAsked 3 = .ok (.invokevirtual 23, 3) := by decide +kernel
theorem dX7_signAsked_6 : decode cX7_signAsked 6 = .ok (.aload_n 0, 1) := by decide +kernel
theorem dX7_signAsked_7 : decode cX7_signAsked 7 = .ok (.aload_n 1, 1) := by decide +kernel
theorem dX7_signAsked_8 : decode cX7_signAsked 8 = .ok (.invokespecial 33, 3) := by decide +kernel
theorem dX7_signAsked_11 : decode cX7_signAsked 11 = .ok (.aload_n 0, 1) := by decide +kernel
theorem dX7_signAsked_12 : decode cX7_signAsked 12 = .ok (.getfield 36, 3) := by decide +kernel
theorem dX7_signAsked_15 : decode cX7_signAsked 15 = .ok (.iadd, 1) := by decide +kernel
theorem dX7_signAsked_16 : decode cX7_signAsked 16 = .ok (.ireturn, 1) := by decide +kernel
theorem dX8_init_0 : decode cX8_init 0 = .ok (.aload_n 0, 1) := by decide +kernel
theorem dX8_init_1 : decode cX8_init 1 = .ok (.invokespecial 3, 3) := by decide +kernel
theorem dX8_init_4 : decode cX8_init 4 = .ok (.aload_n 0, 1) := by decide +kernel
theorem dX8_init_5 : decode cX8_init 5 = .ok (.bipush 7, 2) := by decide +kernel
theorem dX8_init_7 : decode cX8_init 7 = .ok (.bipush 19, 2) := by decide +kernel
theorem dX8_init_9 : decode cX8_init 9 = .ok (.multianewarray 11 2, 4) := by decide +kernel
theorem dX8_init_13 : decode cX8_init 13 = .ok (.putfield 13, 3) := by decide +kernel
theorem dX8_init_16 : decode cX8_init 16 = .ok (.aload_n 0, 1) := by decide +kernel
theorem dX8_init_17 : decode cX8_init 17 = .ok (.aconst_null, 1) := by decide +kernel
theorem dX8_init_18 : decode cX8_init 18 = .ok (.putfield 16, 3) := by decide +kernel
theorem dX8_init_21 : decode cX8_init 21 = .ok (.aload_n 0, 1) := by decide +kernel
theorem dX8_init_22 : decode cX8_init 22 = .ok (.iconst 0, 1) := by decide +kernel
theorem dX8_init_23 : decode cX8_init 23 = .ok (.putfield 20, 3) := by decide +kernel
theorem dX8_init_26 : decode cX8_init 26 = .ok (.aload_n 0, 1) := by decide +kernel
theorem dX8_init_27 : decode cX8_init 27 = .ok (.bipush 19, 2) := by decide +kernel
theorem dX8_init_29 : decode cX8_init 29 = .ok (.newarray .int, 2) := by decide +kernel
theorem dX8_init_31 : decode cX8_init 31 = .ok (.putfield 24, 3) := by decide +kernel
theorem dX8_init_34 : decode cX8_init 34 = .ok (.aload_n 0, 1) := by decide +kernel
theorem dX8_init_35 : decode cX8_init 35 = .ok (.bipush 6, 2) := by decide +kernel
theorem dX8_init_37 : decode cX8_init 37 = .ok (.bipush 6, 2) := by decide +kernel
theorem dX8_init_39 : decode cX8_init 39 = .ok (.multianewarray 11 2, 4) := by decide +kernel
theorem dX8_init_43 : decode cX8_init 43 = .ok (.putfield 28, 3) := by decide +kernel
theorem dX8_init_46 : decode cX8_init 46 = .ok (.aload_n 0, 1) := by decide +kernel
theorem dX8_init_47 : decode cX8_init 47 = .ok (.bipush 19, 2) := by decide +kernel
theorem dX8_init_49 : decode cX8_init 49 = .ok (.newarray .int, 2) := by decide +kernel
theorem dX8_init_51 : decode cX8_init 51 = .ok (.putfield 31, 3) := by decide +kernel
theorem dX8_init_54 : decode cX8_init 54 = .ok (.aload_n 0, 1) := by decide +kernel
theorem dX8_init_55 : decode cX8_init 55 = .ok (.bipush 19, 2) := by decide +kernel
theorem dX8_init_57 : decode cX8_init 57 = .ok (.newarray .int, 2) := by decide +kernel
theorem dX8_init_59 : decode cX8_init 59 = .ok (.putfield 34, 3) := by decide +kernel
theorem dX8_init_62 : decode cX8_init 62 = .ok (.aload_n 0, 1) := by decide +kernel
theorem dX8_init_63 : decode cX8_init 63 = .ok (.aload_n 1, 1) := by decide +kernel
theorem dX8_init_64 : decode cX8_init 64 = .ok (.putfield 37, 3) := by decide +kernel
theorem dX8_init_67 : decode cX8_init 67 = .ok (.aload_n 0, 1) := by decide +kernel
theorem dX8_init_68 : decode cX8_init 68 = .ok (.aload_n 2, 1) := by decide +kernel
theorem dX8_init_69 : decode cX8_init 69 = .ok (.putfield 41, 3) := by decide +kernel
theorem dX8_init_72 : decode cX8_init 72 = .ok (.aload_n 0, 1) := by decide +kernel
theorem dX8_init_73 : decode cX8_init 73 = .ok (.aload_n 1, 1) := by decide +kernel
theorem dX8_init_74 : decode cX8_init 74 = .ok (.getfield 45, 3) := by decide +kernel
theorem dX8_init_77 : decode cX8_init 77 = .ok (.putfield 50, 3) := by decide +kernel
theorem dX8_init_80 : decode cX8_init 80 = .ok (.return_, 1) := by decide +kernel
set_option maxRecDepth 20000 in
theorem ggX8_worldOf_X8_ownOf : GoodIn wsX8_worldOf wsX8_ownOf := goodIn_r _ [19, 20, 21, 1, 22, 23, 24, 25, 26, 27, 28, 29, 30, 31, 32, 33, 34, 35, 36, 37, 38, 39, 40, 41, 42, 43, 44, 45, 46, 47, 48, 49, 50, 51, 52, 53, 54, 55, 56, 57, 58, 59, 60, 61, 62, 63, 64, 65, 66, 67, 68, 69, 70, 71, 72, 73, 74, 75, 76, 77, 78, 79, 80, 81, 82, 83, 84, 85, 86, 87, 88, 89, 90, 91, 92, 93, 94, 95, 198, 199, 200, 201, 202, 203, 204, 205, 206, 207, 234, 235, 236, 237, 238, 239, 240, 241, 242, 243, 216, 217, 218, 219, 220, 221, 222, 223] (by decide +kernel) (by decide +kernel)
set_option maxRecDepth 20000 in
theorem gX8_worldOf_X8_ownOf : GoodIn wsX8_worldOf (wsV RX8 51 RX8 yX8_ownOf wsX8_ownOf) := goodIn_app (goodIn_of _ (by decide +kernel)) ggX8_worldOf_X8_ownOf
set_option maxRecDepth 20000 in
theorem ggX8_worldOf_X2_degreeOf : GoodIn wsX8_worldOf wsX2_degreeOf := goodIn_r _ [99, 100, 216, 217, 218, 219, 220, 221, 222, 223] (by decide +kernel) (by decide +kernel)
set_option maxRecDepth 20000 in
theorem gX8_worldOf_X2_degreeOf : GoodIn wsX8_worldOf (wsV RX8 55 RX2 yX2_degreeOf wsX2_degreeOf) := goodIn_app (goodIn_of _ (by decide +kernel)) ggX8_worldOf_X2_degreeOf
set_option maxRecDepth 20000 in
theorem ggX8_worldOf_X3_init : GoodIn wsX8_worldOf wsX3_init := goodIn_r _ [103, 104, 105, 106, 107, 108, 109, 110, 111, 112, 113, 114, 212, 213, 214, 215, 208, 209, 210, 211, 224, 225, 226, 227, 228, 229, 230, 231, 232, 233] (by decide +kernel) (by decide +kernel)
set_option maxRecDepth 20000 in
theorem gX8_worldOf_X3_init : GoodIn wsX8_worldOf (wsX3_init) := ggX8_worldOf_X3_init
set_option maxRecDepth 20000 in
theorem ggX8_worldOf_X1_init : GoodIn wsX8_worldOf wsX1_init := goodIn_r _ [117, 118, 105, 106, 107, 108, 109, 110, 111, 112, 113, 114, 212, 213, 214, 215, 208, 209, 210, 211, 224, 225, 226, 227, 228, 229, 230, 231, 232, 233] (by decide +kernel) (by decide +kernel)
set_option maxRecDepth 20000 in
theorem gX8_worldOf_X1_init : GoodIn wsX8_worldOf (wsX1_init) := ggX8_worldOf_X1_init
set_option maxRecDepth 20000 in
theorem ggX8_worldOf_X2_power : GoodIn wsX8_worldOf wsX2_power := goodIn_r _ [122, 123, 80, 81, 82, 83, 84, 85, 86, 87, 88, 89, 90, 91, 92, 93, 94, 95, 216, 217, 218, 219, 220, 221, 222, 223] (by decide +kernel) (by decide +kernel)
set_option maxRecDepth 20000 in
theorem gX8_worldOf_X2_power : GoodIn wsX8_worldOf (wsV RX8 69 RX2 yX2_power wsX2_power) := goodIn_app (goodIn_of _ (by decide +kernel)) ggX8_worldOf_X2_power
set_option maxRecDepth 20000 in
theorem ggX8_worldOf_X2_inverse : GoodIn wsX8_worldOf wsX2_inverse := goodIn_r _ [127, 128, 129, 120, 121, 82, 122, 123, 80, 81, 83, 84, 85, 86, 87, 88, 89, 90, 91, 92, 93, 94, 95, 216, 217, 218, 219, 220, 221, 222, 223] (by decide +kernel) (by decide +kernel)
set_option maxRecDepth 20000 in
theorem gX8_worldOf_X2_inverse : GoodIn wsX8_worldOf (wsV RX8 73 RX2 yX2_inverse wsX2_inverse) := goodIn_app (goodIn_of _ (by decide +kernel)) ggX8_worldOf_X2_inverse
set_option maxRecDepth 20000 in
theorem ggX8_worldOf_X2_times : GoodIn wsX8_worldOf wsX2_times := goodIn_r _ [83, 84, 85, 86, 82, 87, 88, 89, 90, 91, 92, 93, 94, 95, 216, 217, 218, 219, 220, 221, 222, 223] (by decide +kernel) (by decide +kernel)
set_option maxRecDepth 20000 in
theorem gX8_worldOf_X2_times : GoodIn wsX8_worldOf (wsV RX8 76 RX2 yX2_times wsX2_times) := goodIn_app (goodIn_of _ (by decide +kernel)) ggX8_worldOf_X2_times
set_option maxRecDepth 20000 in
theorem ggX8_worldOf_X4_init : GoodIn wsX8_worldOf wsX4_init := goodIn_r _ [132, 133, 134, 105, 106, 107, 108, 109, 110, 111, 112, 113, 114, 224, 225, 226, 227, 228, 229, 230, 231, 232, 233, 212, 213, 214, 215, 208, 209, 210, 211] (by decide +kernel) (by decide +kernel)
set_option maxRecDepth 20000 in
theorem gX8_worldOf_X4_init : GoodIn wsX8_worldOf (wsX4_init) := ggX8_worldOf_X4_init
set_option maxRecDepth 20000 in
theorem ggX8_worldOf_X8_heightOf : GoodIn wsX8_worldOf wsX8_heightOf := goodIn_r _ [138, 139, 140, 141, 142, 143, 18, 144, 1, 145, 96, 97, 98, 82, 99, 100, 146, 147, 148, 149, 150, 151, 152, 153, 154, 52, 53, 54, 155, 156, 157, 158, 159, 160, 161, 162, 163, 164, 165, 166, 167, 168, 169, 170, 171, 88, 90, 89, 84, 85, 86, 87, 91, 92, 93, 94, 95, 172, 173, 174, 175, 176, 177, 178, 179, 180, 181, 182, 183, 184, 185, 186, 212, 213, 214, 215, 208, 209, 210, 211, 224, 225, 226, 227, 228, 229, 230, 231, 232, 233, 198, 199, 200, 201, 202, 203, 204, 205, 206, 207, 216, 217, 218, 219, 220, 221, 222, 223] (by decide +kernel) (by decide +kernel)
set_option maxRecDepth 20000 in
theorem gX8_worldOf_X8_heightOf : GoodIn wsX8_worldOf (wsV RX8 84 RX8 yX8_heightOf wsX8_heightOf) := goodIn_app (goodIn_of _ (by decide +kernel)) ggX8_worldOf_X8_heightOf
set_option maxRecDepth 20000 in
theorem ggX8_worldOf_X7_init : GoodIn wsX8_worldOf wsX7_init := goodIn_r _ [189, 190, 191, 192, 193, 194, 195, 196, 197, 131, 11, 132, 133, 134, 105, 106, 107, 108, 109, 110, 111, 112, 113, 114, 212, 213, 214, 215, 208, 209, 210, 211, 224, 225, 226, 227, 228, 229, 230, 231, 232, 233] (by decide +kernel) (by decide +kernel)
set_option maxRecDepth 20000 in
theorem gX8_worldOf_X7_init : GoodIn wsX8_worldOf (wsX7_init) := ggX8_worldOf_X7_init
theorem dX8_worldOf_0 : decode cX8_worldOf 0 = .ok (.aload_n 0, 1) := by decide +kernel
theorem dX8_worldOf_1 : decode cX8_worldOf 1 = .ok (.aload_n 1, 1) := by decide +kernel
theorem dX8_worldOf_2 : decode cX8_worldOf 2 = .ok (.iconst 0, 1) := by decide +kernel
theorem dX8_worldOf_3 : decode cX8_worldOf 3 = .ok (.iaload, 1) := by decide +kernel
theorem dX8_worldOf_4 : decode cX8_worldOf 4 = .ok (.invokevirtual 51, 3) := by decide +kernel
theorem dX8_worldOf_7 : decode cX8_worldOf 7 = .ok (.istore_n 3, 1) := by decide +kernel
theorem dX8_worldOf_8 : decode cX8_worldOf 8 = .ok (.aload_n 0, 1) := by decide +kernel
theorem dX8_worldOf_9 : decode cX8_worldOf 9 = .ok (.getfield 37, 3) := by decide +kernel
theorem dX8_worldOf_12 : decode cX8_worldOf 12 = .ok (.iload_n 3, 1) := by decide +kernel
theorem dX8_worldOf_13 : decode cX8_worldOf 13 = .ok (.invokevirtual 55, 3) := by decide +kernel
theorem dX8_worldOf_16 : decode cX8_worldOf 16 = .ok (.istore 4, 2) := by decide +kernel
theorem dX8_worldOf_18 : decode cX8_worldOf 18 = .ok (.iload_n 2, 1) := by decide +kernel
theorem dX8_worldOf_19 : decode cX8_worldOf 19 = .ok (.iconst 1, 1) := by decide +kernel
theorem dX8_worldOf_20 : decode cX8_worldOf 20 = .ok (.if_icmp .ne 15, 3) := by decide +kernel
theorem dX8_worldOf_23 : decode cX8_worldOf 23 = .ok (.new 58, 3) := by decide +kernel
theorem dX8_worldOf_26 : decode cX8_worldOf 26 = .ok (.dup, 1) := by decide +kernel
theorem dX8_worldOf_27 : decode cX8_worldOf 27 = .ok (.aload_n 1, 1) := by decide +kernel
theorem dX8_worldOf_28 : decode cX8_worldOf 28 = .ok (.iload_n 3, 1) := by decide +kernel
theorem dX8_worldOf_29 : decode cX8_worldOf 29 = .ok (.iload 4, 2) := by decide +kernel
theorem dX8_worldOf_31 : decode cX8_worldOf 31 = .ok (.invokespecial 60, 3) := by decide +kernel
theorem dX8_worldOf_34 : decode cX8_worldOf 34 = .ok (.areturn, 1) := by decide +kernel
theorem dX8_worldOf_35 : decode cX8_worldOf 35 = .ok (.iload_n 2, 1) := by decide +kernel
theorem dX8_worldOf_36 : decode cX8_worldOf 36 = .ok (.iconst 3, 1) := by decide +kernel
theorem dX8_worldOf_37 : decode cX8_worldOf 37 = .ok (.if_icmp .ne 15, 3) := by decide +kernel
theorem dX8_worldOf_40 : decode cX8_worldOf 40 = .ok (.new 63, 3) := by decide +kernel
theorem dX8_worldOf_43 : decode cX8_worldOf 43 = .ok (.dup, 1) := by decide +kernel
theorem dX8_worldOf_44 : decode cX8_worldOf 44 = .ok (.aload_n 1, 1) := by decide +kernel
theorem dX8_worldOf_45 : decode cX8_worldOf 45 = .ok (.iload_n 3, 1) := by decide +kernel
theorem dX8_worldOf_46 : decode cX8_worldOf 46 = .ok (.iload 4, 2) := by decide +kernel
theorem dX8_worldOf_48 : decode cX8_worldOf 48 = .ok (.invokespecial 65, 3) := by decide +kernel
theorem dX8_worldOf_51 : decode cX8_worldOf 51 = .ok (.areturn, 1) := by decide +kernel
theorem dX8_worldOf_52 : decode cX8_worldOf 52 = .ok (.aload_n 0, 1) := by decide +kernel
theorem dX8_worldOf_53 : decode cX8_worldOf 53 = .ok (.getfield 37, 3) := by decide +kernel
theorem dX8_worldOf_56 : decode cX8_worldOf 56 = .ok (.aload_n 0, 1) := by decide +kernel
theorem dX8_worldOf_57 : decode cX8_worldOf 57 = .ok (.getfield 37, 3) := by decide +kernel
theorem dX8_worldOf_60 : decode cX8_worldOf 60 = .ok (.aload_n 1, 1) := by decide +kernel
theorem dX8_worldOf_61 : decode cX8_worldOf 61 = .ok (.iconst 1, 1) := by decide +kernel
theorem dX8_worldOf_62 : decode cX8_worldOf 62 = .ok (.iaload, 1) := by decide +kernel
theorem dX8_worldOf_63 : decode cX8_worldOf 63 = .ok (.aload_n 0, 1) := by decide +kernel
theorem dX8_worldOf_64 : decode cX8_worldOf 64 = .ok (.getfield 37, 3) := by decide +kernel
theorem dX8_worldOf_67 : decode cX8_worldOf 67 = .ok (.getfield 66, 3) := by decide +kernel
theorem dX8_worldOf_70 : decode cX8_worldOf 70 = .ok (.iconst 1, 1) := by decide +kernel
theorem dX8_worldOf_71 : decode cX8_worldOf 71 = .ok (.iadd, 1) := by decide +kernel
theorem dX8_worldOf_72 : decode cX8_worldOf 72 = .ok (.invokevirtual 69, 3) := by decide +kernel
theorem dX8_worldOf_75 : decode cX8_worldOf 75 = .ok (.aload_n 0, 1) := by decide +kernel
theorem dX8_worldOf_76 : decode cX8_worldOf 76 = .ok (.getfield 37, 3) := by decide +kernel
theorem dX8_worldOf_79 : decode cX8_worldOf 79 = .ok (.aload_n 1, 1) := by decide +kernel
theorem dX8_worldOf_80 : decode cX8_worldOf 80 = .ok (.iconst 2, 1) := by decide +kernel
theorem dX8_worldOf_81 : decode cX8_worldOf 81 = .ok (.iaload, 1) := by decide +kernel
theorem dX8_worldOf_82 : decode cX8_worldOf 82 = .ok (.invokevirtual 73, 3) := by decide +kernel
theorem dX8_worldOf_85 : decode cX8_worldOf 85 = .ok (.invokevirtual 76, 3) := by decide +kernel
theorem dX8_worldOf_88 : decode cX8_worldOf 88 = .ok (.istore 5, 2) := by decide +kernel
theorem dX8_worldOf_90 : decode cX8_worldOf 90 = .ok (.new 79, 3) := by decide +kernel
theorem dX8_worldOf_93 : decode cX8_worldOf 93 = .ok (.dup, 1) := by decide +kernel
theorem dX8_worldOf_94 : decode cX8_worldOf 94 = .ok (.aload_n 1, 1) := by decide +kernel
theorem dX8_worldOf_95 : decode cX8_worldOf 95 = .ok (.iload_n 3, 1) := by decide +kernel
theorem dX8_worldOf_96 : decode cX8_worldOf 96 = .ok (.iload 4, 2) := by decide +kernel
theorem dX8_worldOf_98 : decode cX8_worldOf 98 = .ok (.iload 5, 2) := by decide +kernel
theorem dX8_worldOf_100 : decode cX8_worldOf 100 = .ok (.invokespecial 81, 3) := by decide +kernel
theorem dX8_worldOf_103 : decode cX8_worldOf 103 = .ok (.astore 6, 2) := by decide +kernel
theorem dX8_worldOf_105 : decode cX8_worldOf 105 = .ok (.aload_n 0, 1) := by decide +kernel
theorem dX8_worldOf_106 : decode cX8_worldOf 106 = .ok (.aload 6, 2) := by decide +kernel
theorem dX8_worldOf_108 : decode cX8_worldOf 108 = .ok (.invokevirtual 84, 3) := by decide +kernel
theorem dX8_worldOf_111 : decode cX8_worldOf 111 = .ok (.iconst 2, 1) := by decide +kernel
theorem dX8_worldOf_112 : decode cX8_worldOf 112 = .ok (.if_icmp .ne 15, 3) := by decide +kernel
theorem dX8_worldOf_115 : decode cX8_worldOf 115 = .ok (.new 88, 3) := by decide +kernel
theorem dX8_worldOf_118 : decode cX8_worldOf 118 = .ok (.dup, 1) := by decide +kernel
theorem dX8_worldOf_119 : decode cX8_worldOf 119 = .ok (.aload 6, 2) := by decide +kernel
theorem dX8_worldOf_121 : decode cX8_worldOf 121 = .ok (.invokespecial 90, 3) := by decide +kernel
theorem dX8_worldOf_124 : decode cX8_worldOf 124 = .ok (.goto 5, 3) := by decide +kernel
theorem dX8_worldOf_127 : decode cX8_worldOf 127 = .ok (.aload 6, 2) := by decide +kernel
theorem dX8_worldOf_129 : decode cX8_worldOf 129 = .ok (.areturn, 1) := by decide +kernel
set_option maxRecDepth 20000 in
theorem ggX8_ownOf_X6_begin : GoodIn wsX8_ownOf wsX6_begin := goodIn_r _ [8, 9, 10, 11, 12, 13, 14, 15, 88, 89, 90, 91, 92, 93, 94, 95, 96, 97] (by decide +kernel) (by decide +kernel)
set_option maxRecDepth 20000 in
theorem gX8_ownOf_X6_begin : GoodIn wsX8_ownOf (wsV RX8 93 RX6 yX6_begin wsX6_begin) := goodIn_app (goodIn_of _ (by decide +kernel)) ggX8_ownOf_X6_begin
set_option maxRecDepth 20000 in
theorem ggX8_ownOf_X6_putElement : GoodIn wsX8_ownOf wsX6_putElement := goodIn_r _ [19, 20, 21, 22, 23, 24, 25, 7, 26, 13, 27, 88, 89, 90, 91, 92, 93, 94, 95, 96, 97, 98, 99, 100, 101, 102, 103, 104, 105] (by decide +kernel) (by decide +kernel)
set_option maxRecDepth 20000 in
theorem gX8_ownOf_X6_putElement : GoodIn wsX8_ownOf (wsV RX8 99 RX6 yX6_putElement wsX6_putElement) := goodIn_app (goodIn_of _ (by decide +kernel)) ggX8_ownOf_X6_putElement
set_option maxRecDepth 20000 in
theorem ggX8_ownOf_X6_feed : GoodIn wsX8_ownOf wsX6_feed := goodIn_r _ [31, 15, 32, 14, 13, 33, 34, 35, 36, 37, 38, 39, 7, 40, 22, 27, 41, 42, 43, 44, 45, 46, 47, 48, 49, 50, 51, 20, 52, 53, 54, 55, 56, 57, 58, 59, 60, 88, 89, 90, 91, 92, 93, 94, 95, 96, 97, 98, 99, 100, 101, 102, 103, 104, 105] (by decide +kernel) (by decide +kernel)
set_option maxRecDepth 20000 in
theorem gX8_ownOf_X6_feed : GoodIn wsX8_ownOf (wsV RX8 103 RX6 yX6_feed wsX6_feed) := goodIn_app (goodIn_of _ (by decide +kernel)) ggX8_ownOf_X6_feed
set_option maxRecDepth 20000 in
theorem ggX8_ownOf_X2_times : GoodIn wsX8_ownOf wsX2_times := goodIn_r _ [65, 66, 67, 68, 64, 69, 70, 71, 72, 73, 74, 75, 76, 77, 98, 99, 100, 101, 102, 103, 104, 105] (by decide +kernel) (by decide +kernel)
set_option maxRecDepth 20000 in
theorem gX8_ownOf_X2_times : GoodIn wsX8_ownOf (wsV RX8 76 RX2 yX2_times wsX2_times) := goodIn_app (goodIn_of _ (by decide +kernel)) ggX8_ownOf_X2_times
theorem dX8_ownOf_0 : decode cX8_ownOf 0 = .ok (.aload_n 0, 1) := by decide +kernel
theorem dX8_ownOf_1 : decode cX8_ownOf 1 = .ok (.getfield 41, 3) := by decide +kernel
theorem dX8_ownOf_4 : decode cX8_ownOf 4 = .ok (.aload_n 0, 1) := by decide +kernel
theorem dX8_ownOf_5 : decode cX8_ownOf 5 = .ok (.getfield 50, 3) := by decide +kernel
theorem dX8_ownOf_8 : decode cX8_ownOf 8 = .ok (.invokevirtual 93, 3) := by decide +kernel
theorem dX8_ownOf_11 : decode cX8_ownOf 11 = .ok (.iconst 0, 1) := by decide +kernel
theorem dX8_ownOf_12 : decode cX8_ownOf 12 = .ok (.istore_n 2, 1) := by decide +kernel
theorem dX8_ownOf_13 : decode cX8_ownOf 13 = .ok (.iconst 1, 1) := by decide +kernel
theorem dX8_ownOf_14 : decode cX8_ownOf 14 = .ok (.istore_n 3, 1) := by decide +kernel
theorem dX8_ownOf_15 : decode cX8_ownOf 15 = .ok (.iconst 0, 1) := by decide +kernel
theorem dX8_ownOf_16 : decode cX8_ownOf 16 = .ok (.istore 4, 2) := by decide +kernel
theorem dX8_ownOf_18 : decode cX8_ownOf 18 = .ok (.iload 4, 2) := by decide +kernel
theorem dX8_ownOf_20 : decode cX8_ownOf 20 = .ok (.aload_n 0, 1) := by decide +kernel
theorem dX8_ownOf_21 : decode cX8_ownOf 21 = .ok (.getfield 50, 3) := by decide +kernel
theorem dX8_ownOf_24 : decode cX8_ownOf 24 = .ok (.if_icmp .gt 40, 3) := by decide +kernel
theorem dX8_ownOf_27 : decode cX8_ownOf 27 = .ok (.iload_n 2, 1) := by decide +kernel
theorem dX8_ownOf_28 : decode cX8_ownOf 28 = .ok (.ifCond .ne 36, 3) := by decide +kernel
theorem dX8_ownOf_31 : decode cX8_ownOf 31 = .ok (.aload_n 0, 1) := by decide +kernel
theorem dX8_ownOf_32 : decode cX8_ownOf 32 = .ok (.getfield 41, 3) := by decide +kernel
theorem dX8_ownOf_35 : decode cX8_ownOf 35 = .ok (.iconst 0, 1) := by decide +kernel
theorem dX8_ownOf_36 : decode cX8_ownOf 36 = .ok (.iload_n 3, 1) := by decide +kernel
theorem dX8_ownOf_37 : decode cX8_ownOf 37 = .ok (.invokevirtual 99, 3) := by decide +kernel
theorem dX8_ownOf_40 : decode cX8_ownOf 40 = .ok (.aload_n 0, 1) := by decide +kernel
theorem dX8_ownOf_41 : decode cX8_ownOf 41 = .ok (.getfield 41, 3) := by decide +kernel
theorem dX8_ownOf_44 : decode cX8_ownOf 44 = .ok (.invokevirtual 103, 3) := by decide +kernel
theorem dX8_ownOf_47 : decode cX8_ownOf 47 = .ok (.istore_n 2, 1) := by decide +kernel
theorem dX8_ownOf_48 : decode cX8_ownOf 48 = .ok (.aload_n 0, 1) := by decide +kernel
theorem dX8_ownOf_49 : decode cX8_ownOf 49 = .ok (.getfield 37, 3) := by decide +kernel
theorem dX8_ownOf_52 : decode cX8_ownOf 52 = .ok (.iload_n 3, 1) := by decide +kernel
theorem dX8_ownOf_53 : decode cX8_ownOf 53 = .ok (.iload_n 1, 1) := by decide +kernel
theorem dX8_ownOf_54 : decode cX8_ownOf 54 = .ok (.invokevirtual 76, 3) := by decide +kernel
theorem dX8_ownOf_57 : decode cX8_ownOf 57 = .ok (.istore_n 3, 1) := by decide +kernel
theorem dX8_ownOf_58 : decode cX8_ownOf 58 = .ok (.iinc 4 1, 3) := by decide +kernel
theorem dX8_ownOf_61 : decode cX8_ownOf 61 = .ok (.goto (-43), 3) := by decide +kernel
theorem dX8_ownOf_64 : decode cX8_ownOf 64 = .ok (.iload_n 2, 1) := by decide +kernel
theorem dX8_ownOf_65 : decode cX8_ownOf 65 = .ok (.ireturn, 1) := by decide +kernel
set_option maxRecDepth 20000 in
theorem ggX8_heightOf_X8_lengthOf : GoodIn wsX8_heightOf wsX8_lengthOf := goodIn_r _ [7, 8, 9, 10, 11, 12, 13, 14, 15, 90, 91, 92, 93, 94, 95, 96, 97, 98, 99, 72, 73, 74, 75, 76, 77, 78, 79, 80, 81, 82, 83, 84, 85, 86, 87, 88, 89, 100, 101, 102, 103, 104, 105, 106, 107] (by decide +kernel) (by decide +kernel)
set_option maxRecDepth 20000 in
theorem gX8_heightOf_X8_lengthOf : GoodIn wsX8_heightOf (wsV RX8 112 RX8 yX8_lengthOf wsX8_lengthOf) := goodIn_app (goodIn_of _ (by decide +kernel)) ggX8_heightOf_X8_lengthOf
set_option maxRecDepth 20000 in
theorem ggX8_heightOf_X8_raisePowers : GoodIn wsX8_heightOf wsX8_raisePowers := goodIn_r _ [19, 20, 21, 22, 9, 23, 24, 25, 26, 27, 28, 29, 30, 6, 31, 32, 33, 34, 35, 36, 8, 37, 38, 39, 13, 40, 41, 42, 43, 44, 45, 46, 47, 48, 49, 50, 51, 52, 53, 54, 55, 56, 57, 58, 59, 60, 61, 90, 91, 92, 93, 94, 95, 96, 97, 98, 99, 72, 73, 74, 75, 76, 77, 78, 79, 80, 81, 82, 83, 84, 85, 86, 87, 88, 89, 100, 101, 102, 103, 104, 105, 106, 107] (by decide +kernel) (by decide +kernel)
set_option maxRecDepth 20000 in
theorem gX8_heightOf_X8_raisePowers : GoodIn wsX8_heightOf (wsV RX8 119 RX8 yX8_raisePowers wsX8_raisePowers) := goodIn_app (goodIn_of _ (by decide +kernel)) ggX8_heightOf_X8_raisePowers
set_option maxRecDepth 20000 in
theorem ggX8_heightOf_X8_mixed : GoodIn wsX8_heightOf wsX8_mixed := goodIn_r _ [65, 21, 8, 22, 66, 67, 68, 13, 69, 15, 47, 70, 42, 43, 44, 45, 46, 71, 53, 54, 55, 56, 90, 91, 92, 93, 94, 95, 96, 97, 98, 99, 100, 101, 102, 103, 104, 105, 106, 107] (by decide +kernel) (by decide +kernel)
set_option maxRecDepth 20000 in
theorem gX8_heightOf_X8_mixed : GoodIn wsX8_heightOf (wsV RX8 123 RX8 yX8_mixed wsX8_mixed) := goodIn_app (goodIn_of _ (by decide +kernel)) ggX8_heightOf_X8_mixed
theorem dX8_heightOf_0 : decode cX8_heightOf 0 = .ok (.aload_n 0, 1) := by decide +kernel
theorem dX8_heightOf_1 : decode cX8_heightOf 1 = .ok (.aload_n 1, 1) := by decide +kernel
theorem dX8_heightOf_2 : decode cX8_heightOf 2 = .ok (.aload_n 1, 1) := by decide +kernel
theorem dX8_heightOf_3 : decode cX8_heightOf 3 = .ok (.getfield 107, 3) := by decide +kernel
theorem dX8_heightOf_6 : decode cX8_heightOf 6 = .ok (.invokevirtual 112, 3) := by decide +kernel
theorem dX8_heightOf_9 : decode cX8_heightOf 9 = .ok (.istore_n 2, 1) := by decide +kernel
theorem dX8_heightOf_10 : decode cX8_heightOf 10 = .ok (.iconst 0, 1) := by decide +kernel
theorem dX8_heightOf_11 : decode cX8_heightOf 11 = .ok (.istore_n 3, 1) := by decide +kernel
theorem dX8_heightOf_12 : decode cX8_heightOf 12 = .ok (.aload_n 0, 1) := by decide +kernel
theorem dX8_heightOf_13 : decode cX8_heightOf 13 = .ok (.aload_n 1, 1) := by decide +kernel
theorem dX8_heightOf_14 : decode cX8_heightOf 14 = .ok (.aload_n 1, 1) := by decide +kernel
theorem dX8_heightOf_15 : decode cX8_heightOf 15 = .ok (.getfield 116, 3) := by decide +kernel
theorem dX8_heightOf_18 : decode cX8_heightOf 18 = .ok (.invokevirtual 119, 3) := by decide +kernel
theorem dX8_heightOf_21 : decode cX8_heightOf 21 = .ok (.iload_n 3, 1) := by decide +kernel
theorem dX8_heightOf_22 : decode cX8_heightOf 22 = .ok (.iload_n 2, 1) := by decide +kernel
theorem dX8_heightOf_23 : decode cX8_heightOf 23 = .ok (.if_icmp .ge 21, 3) := by decide +kernel
theorem dX8_heightOf_26 : decode cX8_heightOf 26 = .ok (.aload_n 0, 1) := by decide +kernel
theorem dX8_heightOf_27 : decode cX8_heightOf 27 = .ok (.aload_n 1, 1) := by decide +kernel
theorem dX8_heightOf_28 : decode cX8_heightOf 28 = .ok (.getfield 107, 3) := by decide +kernel
theorem dX8_heightOf_31 : decode cX8_heightOf 31 = .ok (.iload_n 3, 1) := by decide +kernel
theorem dX8_heightOf_32 : decode cX8_heightOf 32 = .ok (.invokevirtual 123, 3) := by decide +kernel
theorem dX8_heightOf_35 : decode cX8_heightOf 35 = .ok (.ifCond .ne 9, 3) := by decide +kernel
theorem dX8_heightOf_38 : decode cX8_heightOf 38 = .ok (.iinc 3 1, 3) := by decide +kernel
theorem dX8_heightOf_41 : decode cX8_heightOf 41 = .ok (.goto (-20), 3) := by decide +kernel
theorem dX8_heightOf_44 : decode cX8_heightOf 44 = .ok (.aload_n 1, 1) := by decide +kernel
theorem dX8_heightOf_45 : decode cX8_heightOf 45 = .ok (.getfield 116, 3) := by decide +kernel
theorem dX8_heightOf_48 : decode cX8_heightOf 48 = .ok (.ifCond .le 12, 3) := by decide +kernel
theorem dX8_heightOf_51 : decode cX8_heightOf 51 = .ok (.iload_n 3, 1) := by decide +kernel
theorem dX8_heightOf_52 : decode cX8_heightOf 52 = .ok (.aload_n 1, 1) := by decide +kernel
theorem dX8_heightOf_53 : decode cX8_heightOf 53 = .ok (.getfield 116, 3) := by decide +kernel
theorem dX8_heightOf_56 : decode cX8_heightOf 56 = .ok (.idiv, 1) := by decide +kernel
theorem dX8_heightOf_57 : decode cX8_heightOf 57 = .ok (.goto 4, 3) := by decide +kernel
theorem dX8_heightOf_60 : decode cX8_heightOf 60 = .ok (.iconst 0, 1) := by decide +kernel
theorem dX8_heightOf_61 : decode cX8_heightOf 61 = .ok (.ireturn, 1) := by decide +kernel
set_option maxRecDepth 20000 in
theorem ggX8_lengthOf_X2_degreeOf : GoodIn wsX8_lengthOf wsX2_degreeOf := goodIn_r _ [7, 8, 37, 38, 39, 40, 41, 42, 43, 44] (by decide +kernel) (by decide +kernel)
set_option maxRecDepth 20000 in
theorem gX8_lengthOf_X2_degreeOf : GoodIn wsX8_lengthOf (wsV RX8 55 RX2 yX2_degreeOf wsX2_degreeOf) := goodIn_app (goodIn_of _ (by decide +kernel)) ggX8_lengthOf_X2_degreeOf
theorem dX8_lengthOf_0 : decode cX8_lengthOf 0 = .ok (.aload_n 0, 1) := by decide +kernel
theorem dX8_lengthOf_1 : decode cX8_lengthOf 1 = .ok (.getfield 37, 3) := by decide +kernel
theorem dX8_lengthOf_4 : decode cX8_lengthOf 4 = .ok (.iload_n 2, 1) := by decide +kernel
theorem dX8_lengthOf_5 : decode cX8_lengthOf 5 = .ok (.invokevirtual 55, 3) := by decide +kernel
theorem dX8_lengthOf_8 : decode cX8_lengthOf 8 = .ok (.istore_n 3, 1) := by decide +kernel
theorem dX8_lengthOf_9 : decode cX8_lengthOf 9 = .ok (.iload_n 3, 1) := by decide +kernel
theorem dX8_lengthOf_10 : decode cX8_lengthOf 10 = .ok (.ifCond .ge 7, 3) := by decide +kernel
theorem dX8_lengthOf_13 : decode cX8_lengthOf 13 = .ok (.iconst (-1), 1) := by decide +kernel
theorem dX8_lengthOf_14 : decode cX8_lengthOf 14 = .ok (.goto 9, 3) := by decide +kernel
theorem dX8_lengthOf_17 : decode cX8_lengthOf 17 = .ok (.iload_n 3, 1) := by decide +kernel
theorem dX8_lengthOf_18 : decode cX8_lengthOf 18 = .ok (.aload_n 1, 1) := by decide +kernel
theorem dX8_lengthOf_19 : decode cX8_lengthOf 19 = .ok (.getfield 126, 3) := by decide +kernel
theorem dX8_lengthOf_22 : decode cX8_lengthOf 22 = .ok (.imul, 1) := by decide +kernel
theorem dX8_lengthOf_23 : decode cX8_lengthOf 23 = .ok (.ireturn, 1) := by decide +kernel
set_option maxRecDepth 20000 in
theorem ggX8_numberOf_X2_degreeOf : GoodIn wsX8_numberOf wsX2_degreeOf := goodIn_r _ [6, 7, 76, 77, 78, 79, 80, 81, 82, 83] (by decide +kernel) (by decide +kernel)
set_option maxRecDepth 20000 in
theorem gX8_numberOf_X2_degreeOf : GoodIn wsX8_numberOf (wsV RX8 55 RX2 yX2_degreeOf wsX2_degreeOf) := goodIn_app (goodIn_of _ (by decide +kernel)) ggX8_numberOf_X2_degreeOf
set_option maxRecDepth 20000 in
theorem ggX8_numberOf_X8_raisePowers : GoodIn wsX8_numberOf wsX8_raisePowers := goodIn_r _ [12, 13, 14, 15, 16, 17, 18, 19, 20, 21, 22, 23, 24, 11, 25, 26, 27, 28, 29, 30, 1, 31, 32, 33, 5, 34, 35, 36, 37, 38, 39, 40, 41, 42, 43, 44, 45, 46, 47, 48, 49, 50, 51, 52, 53, 54, 55, 66, 67, 68, 69, 70, 71, 72, 73, 74, 75, 84, 85, 86, 87, 88, 89, 90, 91, 92, 93, 94, 95, 96, 97, 98, 99, 100, 101, 76, 77, 78, 79, 80, 81, 82, 83] (by decide +kernel) (by decide +kernel)
set_option maxRecDepth 20000 in
theorem gX8_numberOf_X8_raisePowers : GoodIn wsX8_numberOf (wsV RX8 119 RX8 yX8_raisePowers wsX8_raisePowers) := goodIn_app (goodIn_of _ (by decide +kernel)) ggX8_numberOf_X8_raisePowers
set_option maxRecDepth 20000 in
theorem ggX8_numberOf_X8_mixed : GoodIn wsX8_numberOf wsX8_mixed := goodIn_r _ [59, 14, 1, 15, 60, 61, 62, 5, 63, 7, 41, 64, 36, 37, 38, 39, 40, 65, 47, 48, 49, 50, 66, 67, 68, 69, 70, 71, 72, 73, 74, 75, 76, 77, 78, 79, 80, 81, 82, 83] (by decide +kernel) (by decide +kernel)
set_option maxRecDepth 20000 in
theorem gX8_numberOf_X8_mixed : GoodIn wsX8_numberOf (wsV RX8 123 RX8 yX8_mixed wsX8_mixed) := goodIn_app (goodIn_of _ (by decide +kernel)) ggX8_numberOf_X8_mixed
theorem dX8_numberOf_0 : decode cX8_numberOf 0 = .ok (.aload_n 0, 1) := by decide +kernel
theorem dX8_numberOf_1 : decode cX8_numberOf 1 = .ok (.aload_n 1, 1) := by decide +kernel
theorem dX8_numberOf_2 : decode cX8_numberOf 2 = .ok (.aload_n 0, 1) := by decide +kernel
theorem dX8_numberOf_3 : decode cX8_numberOf 3 = .ok (.getfield 37, 3) := by decide +kernel
theorem dX8_numberOf_6 : decode cX8_numberOf 6 = .ok (.iload_n 2, 1) := by decide +kernel
theorem dX8_numberOf_7 : decode cX8_numberOf 7 = .ok (.invokevirtual 55, 3) := by decide +kernel
theorem dX8_numberOf_10 : decode cX8_numberOf 10 = .ok (.invokevirtual 119, 3) := by decide +kernel
theorem dX8_numberOf_13 : decode cX8_numberOf 13 = .ok (.aload_n 0, 1) := by decide +kernel
theorem dX8_numberOf_14 : decode cX8_numberOf 14 = .ok (.iload_n 2, 1) := by decide +kernel
theorem dX8_numberOf_15 : decode cX8_numberOf 15 = .ok (.iload_n 3, 1) := by decide +kernel
theorem dX8_numberOf_16 : decode cX8_numberOf 16 = .ok (.invokevirtual 123, 3) := by decide +kernel
theorem dX8_numberOf_19 : decode cX8_numberOf 19 = .ok (.ireturn, 1) := by decide +kernel
set_option maxRecDepth 20000 in
theorem ggX8_mixed_X2_numberAt : GoodIn wsX8_mixed wsX2_numberAt := goodIn_r _ [8, 9, 10, 32, 33, 34, 35, 36, 37, 38, 39] (by decide +kernel) (by decide +kernel)
set_option maxRecDepth 20000 in
theorem gX8_mixed_X2_numberAt : GoodIn wsX8_mixed (wsV RX8 129 RX2 yX2_numberAt wsX2_numberAt) := goodIn_app (goodIn_of _ (by decide +kernel)) ggX8_mixed_X2_numberAt
set_option maxRecDepth 20000 in
theorem ggX8_mixed_X2_addTimes : GoodIn wsX8_mixed wsX2_addTimes := goodIn_r _ [14, 15, 16, 10, 32, 33, 34, 35, 36, 37, 38, 39] (by decide +kernel) (by decide +kernel)
set_option maxRecDepth 20000 in
theorem gX8_mixed_X2_addTimes : GoodIn wsX8_mixed (wsV RX8 132 RX2 yX2_addTimes wsX2_addTimes) := goodIn_app (goodIn_of _ (by decide +kernel)) ggX8_mixed_X2_addTimes
set_option maxRecDepth 20000 in
theorem ggX8_mixed_X2_folded : GoodIn wsX8_mixed wsX2_folded := goodIn_r _ [20, 15, 16, 10, 21, 32, 33, 34, 35, 36, 37, 38, 39] (by decide +kernel) (by decide +kernel)
set_option maxRecDepth 20000 in
theorem gX8_mixed_X2_folded : GoodIn wsX8_mixed (wsV RX8 135 RX2 yX2_folded wsX2_folded) := goodIn_app (goodIn_of _ (by decide +kernel)) ggX8_mixed_X2_folded
theorem dX8_mixed_0 : decode cX8_mixed 0 = .ok (.iconst 0, 1) := by decide +kernel
theorem dX8_mixed_1 : decode cX8_mixed 1 = .ok (.istore_n 3, 1) := by decide +kernel
theorem dX8_mixed_2 : decode cX8_mixed 2 = .ok (.iload_n 3, 1) := by decide +kernel
theorem dX8_mixed_3 : decode cX8_mixed 3 = .ok (.aload_n 0, 1) := by decide +kernel
theorem dX8_mixed_4 : decode cX8_mixed 4 = .ok (.getfield 20, 3) := by decide +kernel
theorem dX8_mixed_7 : decode cX8_mixed 7 = .ok (.if_icmp .gt 33, 3) := by decide +kernel
theorem dX8_mixed_10 : decode cX8_mixed 10 = .ok (.aload_n 0, 1) := by decide +kernel
theorem dX8_mixed_11 : decode cX8_mixed 11 = .ok (.getfield 37, 3) := by decide +kernel
theorem dX8_mixed_14 : decode cX8_mixed 14 = .ok (.aload_n 0, 1) := by decide +kernel
theorem dX8_mixed_15 : decode cX8_mixed 15 = .ok (.getfield 13, 3) := by decide +kernel
theorem dX8_mixed_18 : decode cX8_mixed 18 = .ok (.iload_n 3, 1) := by decide +kernel
theorem dX8_mixed_19 : decode cX8_mixed 19 = .ok (.aaload, 1) := by decide +kernel
theorem dX8_mixed_20 : decode cX8_mixed 20 = .ok (.iload_n 2, 1) := by decide +kernel
theorem dX8_mixed_21 : decode cX8_mixed 21 = .ok (.iaload, 1) := by decide +kernel
theorem dX8_mixed_22 : decode cX8_mixed 22 = .ok (.aload_n 0, 1) := by decide +kernel
theorem dX8_mixed_23 : decode cX8_mixed 23 = .ok (.getfield 37, 3) := by decide +kernel
theorem dX8_mixed_26 : decode cX8_mixed 26 = .ok (.iload_n 1, 1) := by decide +kernel
theorem dX8_mixed_27 : decode cX8_mixed 27 = .ok (.iload_n 3, 1) := by decide +kernel
theorem dX8_mixed_28 : decode cX8_mixed 28 = .ok (.invokevirtual 129, 3) := by decide +kernel
theorem dX8_mixed_31 : decode cX8_mixed 31 = .ok (.invokevirtual 132, 3) := by decide +kernel
theorem dX8_mixed_34 : decode cX8_mixed 34 = .ok (.iinc 3 1, 3) := by decide +kernel
theorem dX8_mixed_37 : decode cX8_mixed 37 = .ok (.goto (-35), 3) := by decide +kernel
theorem dX8_mixed_40 : decode cX8_mixed 40 = .ok (.aload_n 0, 1) := by decide +kernel
theorem dX8_mixed_41 : decode cX8_mixed 41 = .ok (.getfield 37, 3) := by decide +kernel
theorem dX8_mixed_44 : decode cX8_mixed 44 = .ok (.invokevirtual 135, 3) := by decide +kernel
theorem dX8_mixed_47 : decode cX8_mixed 47 = .ok (.ireturn, 1) := by decide +kernel
set_option maxRecDepth 20000 in
theorem ggX8_raisePowers_J7_fill_53178 : GoodIn wsX8_raisePowers wsJ7_fill_53178 := goodIn_r _ [9] (by decide +kernel) (by decide +kernel)
set_option maxRecDepth 20000 in
theorem gX8_raisePowers_J7_fill_53178 : GoodIn wsX8_raisePowers (va_wsS RX8 138 yJ7_fill_53178 wsJ7_fill_53178) := goodIn_app (goodIn_of _ (by decide +kernel)) ggX8_raisePowers_J7_fill_53178
set_option maxRecDepth 20000 in
theorem ggX8_raisePowers_X8_putBehind : GoodIn wsX8_raisePowers wsX8_putBehind := goodIn_r _ [14, 15, 16, 17, 18, 19, 20, 6, 7, 8, 9, 21, 22, 23, 24, 25, 26, 27, 28, 29, 30, 31, 32, 33, 34, 35, 36, 37, 38, 39, 40, 41, 42, 43, 44, 45, 46, 47, 48, 49, 50, 51, 52, 53, 54, 55, 56, 75, 76, 77, 78, 79, 80, 81, 82] (by decide +kernel) (by decide +kernel)
set_option maxRecDepth 20000 in
theorem gX8_raisePowers_X8_putBehind : GoodIn wsX8_raisePowers (wsV RX8 147 RX8 yX8_putBehind wsX8_putBehind) := goodIn_app (goodIn_of _ (by decide +kernel)) ggX8_raisePowers_X8_putBehind
theorem dX8_raisePowers_0 : decode cX8_raisePowers 0 = .ok (.aload_n 0, 1) := by decide +kernel
theorem dX8_raisePowers_1 : decode cX8_raisePowers 1 = .ok (.getfield 16, 3) := by decide +kernel
theorem dX8_raisePowers_4 : decode cX8_raisePowers 4 = .ok (.aload_n 1, 1) := by decide +kernel
theorem dX8_raisePowers_5 : decode cX8_raisePowers 5 = .ok (.if_acmp .eq 32, 3) := by decide +kernel
theorem dX8_raisePowers_8 : decode cX8_raisePowers 8 = .ok (.aload_n 0, 1) := by decide +kernel
theorem dX8_raisePowers_9 : decode cX8_raisePowers 9 = .ok (.aload_n 1, 1) := by decide +kernel
theorem dX8_raisePowers_10 : decode cX8_raisePowers 10 = .ok (.putfield 16, 3) := by decide +kernel
theorem dX8_raisePowers_13 : decode cX8_raisePowers 13 = .ok (.aload_n 0, 1) := by decide +kernel
theorem dX8_raisePowers_14 : decode cX8_raisePowers 14 = .ok (.iconst 0, 1) := by decide +kernel
theorem dX8_raisePowers_15 : decode cX8_raisePowers 15 = .ok (.putfield 20, 3) := by decide +kernel
theorem dX8_raisePowers_18 : decode cX8_raisePowers 18 = .ok (.aload_n 0, 1) := by decide +kernel
theorem dX8_raisePowers_19 : decode cX8_raisePowers 19 = .ok (.getfield 13, 3) := by decide +kernel
theorem dX8_raisePowers_22 : decode cX8_raisePowers 22 = .ok (.iconst 0, 1) := by decide +kernel
theorem dX8_raisePowers_23 : decode cX8_raisePowers 23 = .ok (.aaload, 1) := by decide +kernel
theorem dX8_raisePowers_24 : decode cX8_raisePowers 24 = .ok (.iconst 0, 1) := by decide +kernel
theorem dX8_raisePowers_25 : decode cX8_raisePowers 25 = .ok (.invokestatic 138, 3) := by decide +kernel
theorem dX8_raisePowers_28 : decode cX8_raisePowers 28 = .ok (.aload_n 0, 1) := by decide +kernel
theorem dX8_raisePowers_29 : decode cX8_raisePowers 29 = .ok (.getfield 13, 3) := by decide +kernel
theorem dX8_raisePowers_32 : decode cX8_raisePowers 32 = .ok (.iconst 0, 1) := by decide +kernel
theorem dX8_raisePowers_33 : decode cX8_raisePowers 33 = .ok (.aaload, 1) := by decide +kernel
theorem dX8_raisePowers_34 : decode cX8_raisePowers 34 = .ok (.iconst 0, 1) := by decide +kernel
theorem dX8_raisePowers_35 : decode cX8_raisePowers 35 = .ok (.iconst 1, 1) := by decide +kernel
theorem dX8_raisePowers_36 : decode cX8_raisePowers 36 = .ok (.iastore, 1) := by decide +kernel
theorem dX8_raisePowers_37 : decode cX8_raisePowers 37 = .ok (.aload_n 0, 1) := by decide +kernel
theorem dX8_raisePowers_38 : decode cX8_raisePowers 38 = .ok (.getfield 20, 3) := by decide +kernel
theorem dX8_raisePowers_41 : decode cX8_raisePowers 41 = .ok (.iload_n 2, 1) := by decide +kernel
theorem dX8_raisePowers_42 : decode cX8_raisePowers 42 = .ok (.if_icmp .ge 68, 3) := by decide +kernel
theorem dX8_raisePowers_45 : decode cX8_raisePowers 45 = .ok (.aload_n 0, 1) := by decide +kernel
theorem dX8_raisePowers_46 : decode cX8_raisePowers 46 = .ok (.getfield 20, 3) := by decide +kernel
theorem dX8_raisePowers_49 : decode cX8_raisePowers 49 = .ok (.bipush 6, 2) := by decide +kernel
theorem dX8_raisePowers_51 : decode cX8_raisePowers 51 = .ok (.if_icmp .ge 59, 3) := by decide +kernel
theorem dX8_raisePowers_54 : decode cX8_raisePowers 54 = .ok (.aload_n 1, 1) := by decide +kernel
theorem dX8_raisePowers_55 : decode cX8_raisePowers 55 = .ok (.getfield 126, 3) := by decide +kernel
theorem dX8_raisePowers_58 : decode cX8_raisePowers 58 = .ok (.aload_n 0, 1) := by decide +kernel
theorem dX8_raisePowers_59 : decode cX8_raisePowers 59 = .ok (.getfield 20, 3) := by decide +kernel
theorem dX8_raisePowers_62 : decode cX8_raisePowers 62 = .ok (.imul, 1) := by decide +kernel
theorem dX8_raisePowers_63 : decode cX8_raisePowers 63 = .ok (.istore_n 3, 1) := by decide +kernel
theorem dX8_raisePowers_64 : decode cX8_raisePowers 64 = .ok (.aload_n 0, 1) := by decide +kernel
theorem dX8_raisePowers_65 : decode cX8_raisePowers 65 = .ok (.aload_n 1, 1) := by decide +kernel
theorem dX8_raisePowers_66 : decode cX8_raisePowers 66 = .ok (.getfield 144, 3) := by decide +kernel
theorem dX8_raisePowers_69 : decode cX8_raisePowers 69 = .ok (.aload_n 1, 1) := by decide +kernel
theorem dX8_raisePowers_70 : decode cX8_raisePowers 70 = .ok (.getfield 126, 3) := by decide +kernel
theorem dX8_raisePowers_73 : decode cX8_raisePowers 73 = .ok (.aload_n 0, 1) := by decide +kernel
theorem dX8_raisePowers_74 : decode cX8_raisePowers 74 = .ok (.getfield 13, 3) := by decide +kernel
theorem dX8_raisePowers_77 : decode cX8_raisePowers 77 = .ok (.aload_n 0, 1) := by decide +kernel
theorem dX8_raisePowers_78 : decode cX8_raisePowers 78 = .ok (.getfield 20, 3) := by decide +kernel
theorem dX8_raisePowers_81 : decode cX8_raisePowers 81 = .ok (.aaload, 1) := by decide +kernel
theorem dX8_raisePowers_82 : decode cX8_raisePowers 82 = .ok (.iload_n 3, 1) := by decide +kernel
theorem dX8_raisePowers_83 : decode cX8_raisePowers 83 = .ok (.aload_n 0, 1) := by decide +kernel
theorem dX8_raisePowers_84 : decode cX8_raisePowers 84 = .ok (.getfield 13, 3) := by decide +kernel
theorem dX8_raisePowers_87 : decode cX8_raisePowers 87 = .ok (.aload_n 0, 1) := by decide +kernel
theorem dX8_raisePowers_88 : decode cX8_raisePowers 88 = .ok (.getfield 20, 3) := by decide +kernel
theorem dX8_raisePowers_91 : decode cX8_raisePowers 91 = .ok (.iconst 1, 1) := by decide +kernel
theorem dX8_raisePowers_92 : decode cX8_raisePowers 92 = .ok (.iadd, 1) := by decide +kernel
theorem dX8_raisePowers_93 : decode cX8_raisePowers 93 = .ok (.aaload, 1) := by decide +kernel
theorem dX8_raisePowers_94 : decode cX8_raisePowers 94 = .ok (.invokevirtual 147, 3) := by decide +kernel
theorem dX8_raisePowers_97 : decode cX8_raisePowers 97 = .ok (.aload_n 0, 1) := by decide +kernel
theorem dX8_raisePowers_98 : decode cX8_raisePowers 98 = .ok (.dup, 1) := by decide +kernel
theorem dX8_raisePowers_99 : decode cX8_raisePowers 99 = .ok (.getfield 20, 3) := by decide +kernel
theorem dX8_raisePowers_102 : decode cX8_raisePowers 102 = .ok (.iconst 1, 1) := by decide +kernel
theorem dX8_raisePowers_103 : decode cX8_raisePowers 103 = .ok (.iadd, 1) := by decide +kernel
theorem dX8_raisePowers_104 : decode cX8_raisePowers 104 = .ok (.putfield 20, 3) := by decide +kernel
theorem dX8_raisePowers_107 : decode cX8_raisePowers 107 = .ok (.goto (-70), 3) := by decide +kernel
theorem dX8_raisePowers_110 : decode cX8_raisePowers 110 = .ok (.return_, 1) := by decide +kernel
set_option maxRecDepth 20000 in
theorem ggX8_putBehind_J7_fill_53178 : GoodIn wsX8_putBehind wsJ7_fill_53178 := goodIn_r _ [10] (by decide +kernel) (by decide +kernel)
set_option maxRecDepth 20000 in
theorem gX8_putBehind_J7_fill_53178 : GoodIn wsX8_putBehind (va_wsS RX8 138 yJ7_fill_53178 wsJ7_fill_53178) := goodIn_app (goodIn_of _ (by decide +kernel)) ggX8_putBehind_J7_fill_53178
set_option maxRecDepth 20000 in
theorem ggX8_putBehind_X2_plusTimes : GoodIn wsX8_putBehind wsX2_plusTimes := goodIn_r _ [15, 16, 17, 18, 14, 19, 20, 21, 22, 23, 24, 25, 26, 27, 28, 29, 30, 31, 47, 48, 49, 50, 51, 52, 53, 54] (by decide +kernel) (by decide +kernel)
set_option maxRecDepth 20000 in
theorem gX8_putBehind_X2_plusTimes : GoodIn wsX8_putBehind (wsV RX8 157 RX2 yX2_plusTimes wsX2_plusTimes) := goodIn_app (goodIn_of _ (by decide +kernel)) ggX8_putBehind_X2_plusTimes
set_option maxRecDepth 20000 in
theorem ggX8_putBehind_X2_raised : GoodIn wsX8_putBehind wsX2_raised := goodIn_r _ [35, 20, 22, 21, 36, 27, 28, 29, 14, 30, 31, 47, 48, 49, 50, 51, 52, 53, 54] (by decide +kernel) (by decide +kernel)
set_option maxRecDepth 20000 in
theorem gX8_putBehind_X2_raised : GoodIn wsX8_putBehind (wsV RX8 161 RX2 yX2_raised wsX2_raised) := goodIn_app (goodIn_of _ (by decide +kernel)) ggX8_putBehind_X2_raised
theorem dX8_putBehind_0 : decode cX8_putBehind 0 = .ok (.aload 5, 2) := by decide +kernel
theorem dX8_putBehind_2 : decode cX8_putBehind 2 = .ok (.iconst 0, 1) := by decide +kernel
theorem dX8_putBehind_3 : decode cX8_putBehind 3 = .ok (.invokestatic 138, 3) := by decide +kernel
theorem dX8_putBehind_6 : decode cX8_putBehind 6 = .ok (.aload_n 3, 1) := by decide +kernel
theorem dX8_putBehind_7 : decode cX8_putBehind 7 = .ok (.iconst 0, 1) := by decide +kernel
theorem dX8_putBehind_8 : decode cX8_putBehind 8 = .ok (.aload_n 0, 1) := by decide +kernel
theorem dX8_putBehind_9 : decode cX8_putBehind 9 = .ok (.getfield 24, 3) := by decide +kernel
theorem dX8_putBehind_12 : decode cX8_putBehind 12 = .ok (.iconst 0, 1) := by decide +kernel
theorem dX8_putBehind_13 : decode cX8_putBehind 13 = .ok (.iload 4, 2) := by decide +kernel
theorem dX8_putBehind_15 : decode cX8_putBehind 15 = .ok (.iconst 1, 1) := by decide +kernel
theorem dX8_putBehind_16 : decode cX8_putBehind 16 = .ok (.iadd, 1) := by decide +kernel
theorem dX8_putBehind_17 : decode cX8_putBehind 17 = .ok (.invokestatic 151, 3) := by decide +kernel
theorem dX8_putBehind_20 : decode cX8_putBehind 20 = .ok (.iconst 0, 1) := by decide +kernel
theorem dX8_putBehind_21 : decode cX8_putBehind 21 = .ok (.istore 6, 2) := by decide +kernel
theorem dX8_putBehind_23 : decode cX8_putBehind 23 = .ok (.iload 6, 2) := by decide +kernel
theorem dX8_putBehind_25 : decode cX8_putBehind 25 = .ok (.iload_n 2, 1) := by decide +kernel
theorem dX8_putBehind_26 : decode cX8_putBehind 26 = .ok (.if_icmp .gt 80, 3) := by decide +kernel
theorem dX8_putBehind_29 : decode cX8_putBehind 29 = .ok (.iconst 0, 1) := by decide +kernel
theorem dX8_putBehind_30 : decode cX8_putBehind 30 = .ok (.istore 7, 2) := by decide +kernel
theorem dX8_putBehind_32 : decode cX8_putBehind 32 = .ok (.iload 7, 2) := by decide +kernel
theorem dX8_putBehind_34 : decode cX8_putBehind 34 = .ok (.iload 4, 2) := by decide +kernel
theorem dX8_putBehind_36 : decode cX8_putBehind 36 = .ok (.if_icmp .gt 64, 3) := by decide +kernel
theorem dX8_putBehind_39 : decode cX8_putBehind 39 = .ok (.aload 5, 2) := by decide +kernel
theorem dX8_putBehind_41 : decode cX8_putBehind 41 = .ok (.iload 6, 2) := by decide +kernel
theorem dX8_putBehind_43 : decode cX8_putBehind 43 = .ok (.iload 7, 2) := by decide +kernel
theorem dX8_putBehind_45 : decode cX8_putBehind 45 = .ok (.iadd, 1) := by decide +kernel
theorem dX8_putBehind_46 : decode cX8_putBehind 46 = .ok (.aload_n 0, 1) := by decide +kernel
theorem dX8_putBehind_47 : decode cX8_putBehind 47 = .ok (.getfield 37, 3) := by decide +kernel
theorem dX8_putBehind_50 : decode cX8_putBehind 50 = .ok (.aload 5, 2) := by decide +kernel
theorem dX8_putBehind_52 : decode cX8_putBehind 52 = .ok (.iload 6, 2) := by decide +kernel
theorem dX8_putBehind_54 : decode cX8_putBehind 54 = .ok (.iload 7, 2) := by decide +kernel
theorem dX8_putBehind_56 : decode cX8_putBehind 56 = .ok (.iadd, 1) := by decide +kernel
theorem dX8_putBehind_57 : decode cX8_putBehind 57 = .ok (.iaload, 1) := by decide +kernel
theorem dX8_putBehind_58 : decode cX8_putBehind 58 = .ok (.aload_n 1, 1) := by decide +kernel
theorem dX8_putBehind_59 : decode cX8_putBehind 59 = .ok (.iload 6, 2) := by decide +kernel
theorem dX8_putBehind_61 : decode cX8_putBehind 61 = .ok (.iaload, 1) := by decide +kernel
theorem dX8_putBehind_62 : decode cX8_putBehind 62 = .ok (.aload_n 0, 1) := by decide +kernel
theorem dX8_putBehind_63 : decode cX8_putBehind 63 = .ok (.getfield 24, 3) := by decide +kernel
theorem dX8_putBehind_66 : decode cX8_putBehind 66 = .ok (.iload 7, 2) := by decide +kernel
theorem dX8_putBehind_68 : decode cX8_putBehind 68 = .ok (.iaload, 1) := by decide +kernel
theorem dX8_putBehind_69 : decode cX8_putBehind 69 = .ok (.invokevirtual 157, 3) := by decide +kernel
theorem dX8_putBehind_72 : decode cX8_putBehind 72 = .ok (.iastore, 1) := by decide +kernel
theorem dX8_putBehind_73 : decode cX8_putBehind 73 = .ok (.aload_n 0, 1) := by decide +kernel
theorem dX8_putBehind_74 : decode cX8_putBehind 74 = .ok (.getfield 24, 3) := by decide +kernel
theorem dX8_putBehind_77 : decode cX8_putBehind 77 = .ok (.iload 7, 2) := by decide +kernel
theorem dX8_putBehind_79 : decode cX8_putBehind 79 = .ok (.aload_n 0, 1) := by decide +kernel
theorem dX8_putBehind_80 : decode cX8_putBehind 80 = .ok (.getfield 37, 3) := by decide +kernel
theorem dX8_putBehind_83 : decode cX8_putBehind 83 = .ok (.aload_n 0, 1) := by decide +kernel
theorem dX8_putBehind_84 : decode cX8_putBehind 84 = .ok (.getfield 24, 3) := by decide +kernel
theorem dX8_putBehind_87 : decode cX8_putBehind 87 = .ok (.iload 7, 2) := by decide +kernel
theorem dX8_putBehind_89 : decode cX8_putBehind 89 = .ok (.iaload, 1) := by decide +kernel
theorem dX8_putBehind_90 : decode cX8_putBehind 90 = .ok (.invokevirtual 161, 3) := by decide +kernel
theorem dX8_putBehind_93 : decode cX8_putBehind 93 = .ok (.iastore, 1) := by decide +kernel
theorem dX8_putBehind_94 : decode cX8_putBehind 94 = .ok (.iinc 7 1, 3) := by decide +kernel
theorem dX8_putBehind_97 : decode cX8_putBehind 97 = .ok (.goto (-65), 3) := by decide +kernel
theorem dX8_putBehind_100 : decode cX8_putBehind 100 = .ok (.iinc 6 1, 3) := by decide +kernel
theorem dX8_putBehind_103 : decode cX8_putBehind 103 = .ok (.goto (-80), 3) := by decide +kernel
theorem dX8_putBehind_106 : decode cX8_putBehind 106 = .ok (.return_, 1) := by decide +kernel
set_option maxRecDepth 20000 in
theorem ggX8_divideBy_X2_inverse : GoodIn wsX8_divideBy wsX2_inverse := goodIn_r _ [12, 13, 14, 15, 16, 11, 17, 18, 19, 20, 21, 22, 23, 24, 25, 26, 27, 28, 29, 30, 31, 32, 33, 49, 50, 51, 52, 53, 54, 55, 56] (by decide +kernel) (by decide +kernel)
set_option maxRecDepth 20000 in
theorem gX8_divideBy_X2_inverse : GoodIn wsX8_divideBy (wsV RX8 73 RX2 yX2_inverse wsX2_inverse) := goodIn_app (goodIn_of _ (by decide +kernel)) ggX8_divideBy_X2_inverse
set_option maxRecDepth 20000 in
theorem ggX8_divideBy_X2_raised : GoodIn wsX8_divideBy wsX2_raised := goodIn_r _ [37, 26, 27, 28, 38, 29, 30, 31, 11, 32, 33, 49, 50, 51, 52, 53, 54, 55, 56] (by decide +kernel) (by decide +kernel)
set_option maxRecDepth 20000 in
theorem gX8_divideBy_X2_raised : GoodIn wsX8_divideBy (wsV RX8 161 RX2 yX2_raised wsX2_raised) := goodIn_app (goodIn_of _ (by decide +kernel)) ggX8_divideBy_X2_raised
theorem dX8_divideBy_0 : decode cX8_divideBy 0 = .ok (.aload_n 1, 1) := by decide +kernel
theorem dX8_divideBy_1 : decode cX8_divideBy 1 = .ok (.iconst 0, 1) := by decide +kernel
theorem dX8_divideBy_2 : decode cX8_divideBy 2 = .ok (.aload_n 0, 1) := by decide +kernel
theorem dX8_divideBy_3 : decode cX8_divideBy 3 = .ok (.getfield 28, 3) := by decide +kernel
theorem dX8_divideBy_6 : decode cX8_divideBy 6 = .ok (.iconst 0, 1) := by decide +kernel
theorem dX8_divideBy_7 : decode cX8_divideBy 7 = .ok (.aaload, 1) := by decide +kernel
theorem dX8_divideBy_8 : decode cX8_divideBy 8 = .ok (.iconst 0, 1) := by decide +kernel
theorem dX8_divideBy_9 : decode cX8_divideBy 9 = .ok (.iload_n 2, 1) := by decide +kernel
theorem dX8_divideBy_10 : decode cX8_divideBy 10 = .ok (.iconst 1, 1) := by decide +kernel
theorem dX8_divideBy_11 : decode cX8_divideBy 11 = .ok (.iadd, 1) := by decide +kernel
theorem dX8_divideBy_12 : decode cX8_divideBy 12 = .ok (.invokestatic 151, 3) := by decide +kernel
theorem dX8_divideBy_15 : decode cX8_divideBy 15 = .ok (.aload_n 0, 1) := by decide +kernel
theorem dX8_divideBy_16 : decode cX8_divideBy 16 = .ok (.getfield 28, 3) := by decide +kernel
theorem dX8_divideBy_19 : decode cX8_divideBy 19 = .ok (.iconst 0, 1) := by decide +kernel
theorem dX8_divideBy_20 : decode cX8_divideBy 20 = .ok (.aaload, 1) := by decide +kernel
theorem dX8_divideBy_21 : decode cX8_divideBy 21 = .ok (.iconst 5, 1) := by decide +kernel
theorem dX8_divideBy_22 : decode cX8_divideBy 22 = .ok (.aload_n 0, 1) := by decide +kernel
theorem dX8_divideBy_23 : decode cX8_divideBy 23 = .ok (.getfield 37, 3) := by decide +kernel
theorem dX8_divideBy_26 : decode cX8_divideBy 26 = .ok (.aload_n 1, 1) := by decide +kernel
theorem dX8_divideBy_27 : decode cX8_divideBy 27 = .ok (.iload_n 2, 1) := by decide +kernel
theorem dX8_divideBy_28 : decode cX8_divideBy 28 = .ok (.iaload, 1) := by decide +kernel
theorem dX8_divideBy_29 : decode cX8_divideBy 29 = .ok (.invokevirtual 73, 3) := by decide +kernel
theorem dX8_divideBy_32 : decode cX8_divideBy 32 = .ok (.iastore, 1) := by decide +kernel
theorem dX8_divideBy_33 : decode cX8_divideBy 33 = .ok (.iconst 1, 1) := by decide +kernel
theorem dX8_divideBy_34 : decode cX8_divideBy 34 = .ok (.istore_n 3, 1) := by decide +kernel
theorem dX8_divideBy_35 : decode cX8_divideBy 35 = .ok (.iload_n 3, 1) := by decide +kernel
theorem dX8_divideBy_36 : decode cX8_divideBy 36 = .ok (.aload_n 0, 1) := by decide +kernel
theorem dX8_divideBy_37 : decode cX8_divideBy 37 = .ok (.getfield 50, 3) := by decide +kernel
theorem dX8_divideBy_40 : decode cX8_divideBy 40 = .ok (.if_icmp .ge 76, 3) := by decide +kernel
theorem dX8_divideBy_43 : decode cX8_divideBy 43 = .ok (.iconst 0, 1) := by decide +kernel
theorem dX8_divideBy_44 : decode cX8_divideBy 44 = .ok (.istore 4, 2) := by decide +kernel
theorem dX8_divideBy_46 : decode cX8_divideBy 46 = .ok (.iload 4, 2) := by decide +kernel
theorem dX8_divideBy_48 : decode cX8_divideBy 48 = .ok (.iload_n 2, 1) := by decide +kernel
theorem dX8_divideBy_49 : decode cX8_divideBy 49 = .ok (.if_icmp .gt 36, 3) := by decide +kernel
theorem dX8_divideBy_52 : decode cX8_divideBy 52 = .ok (.aload_n 0, 1) := by decide +kernel
theorem dX8_divideBy_53 : decode cX8_divideBy 53 = .ok (.getfield 28, 3) := by decide +kernel
theorem dX8_divideBy_56 : decode cX8_divideBy 56 = .ok (.iload_n 3, 1) := by decide +kernel
theorem dX8_divideBy_57 : decode cX8_divideBy 57 = .ok (.aaload, 1) := by decide +kernel
theorem dX8_divideBy_58 : decode cX8_divideBy 58 = .ok (.iload 4, 2) := by decide +kernel
theorem dX8_divideBy_60 : decode cX8_divideBy 60 = .ok (.aload_n 0, 1) := by decide +kernel
theorem dX8_divideBy_61 : decode cX8_divideBy 61 = .ok (.getfield 37, 3) := by decide +kernel
theorem dX8_divideBy_64 : decode cX8_divideBy 64 = .ok (.aload_n 0, 1) := by decide +kernel
theorem dX8_divideBy_65 : decode cX8_divideBy 65 = .ok (.getfield 28, 3) := by decide +kernel
theorem dX8_divideBy_68 : decode cX8_divideBy 68 = .ok (.iload_n 3, 1) := by decide +kernel
theorem dX8_divideBy_69 : decode cX8_divideBy 69 = .ok (.iconst 1, 1) := by decide +kernel
theorem dX8_divideBy_70 : decode cX8_divideBy 70 = .ok (.isub, 1) := by decide +kernel
theorem dX8_divideBy_71 : decode cX8_divideBy 71 = .ok (.aaload, 1) := by decide +kernel
theorem dX8_divideBy_72 : decode cX8_divideBy 72 = .ok (.iload 4, 2) := by decide +kernel
theorem dX8_divideBy_74 : decode cX8_divideBy 74 = .ok (.iaload, 1) := by decide +kernel
theorem dX8_divideBy_75 : decode cX8_divideBy 75 = .ok (.invokevirtual 161, 3) := by decide +kernel
theorem dX8_divideBy_78 : decode cX8_divideBy 78 = .ok (.iastore, 1) := by decide +kernel
theorem dX8_divideBy_79 : decode cX8_divideBy 79 = .ok (.iinc 4 1, 3) := by decide +kernel
theorem dX8_divideBy_82 : decode cX8_divideBy 82 = .ok (.goto (-36), 3) := by decide +kernel
theorem dX8_divideBy_85 : decode cX8_divideBy 85 = .ok (.aload_n 0, 1) := by decide +kernel
theorem dX8_divideBy_86 : decode cX8_divideBy 86 = .ok (.getfield 28, 3) := by decide +kernel
theorem dX8_divideBy_89 : decode cX8_divideBy 89 = .ok (.iload_n 3, 1) := by decide +kernel
theorem dX8_divideBy_90 : decode cX8_divideBy 90 = .ok (.aaload, 1) := by decide +kernel
theorem dX8_divideBy_91 : decode cX8_divideBy 91 = .ok (.iconst 5, 1) := by decide +kernel
theorem dX8_divideBy_92 : decode cX8_divideBy 92 = .ok (.aload_n 0, 1) := by decide +kernel
theorem dX8_divideBy_93 : decode cX8_divideBy 93 = .ok (.getfield 37, 3) := by decide +kernel
theorem dX8_divideBy_96 : decode cX8_divideBy 96 = .ok (.aload_n 0, 1) := by decide +kernel
theorem dX8_divideBy_97 : decode cX8_divideBy 97 = .ok (.getfield 28, 3) := by decide +kernel
theorem dX8_divideBy_100 : decode cX8_divideBy 100 = .ok (.iload_n 3, 1) := by decide +kernel
theorem dX8_divideBy_101 : decode cX8_divideBy 101 = .ok (.iconst 1, 1) := by decide +kernel
theorem dX8_divideBy_102 : decode cX8_divideBy 102 = .ok (.isub, 1) := by decide +kernel
theorem dX8_divideBy_103 : decode cX8_divideBy 103 = .ok (.aaload, 1) := by decide +kernel
theorem dX8_divideBy_104 : decode cX8_divideBy 104 = .ok (.iconst 5, 1) := by decide +kernel
theorem dX8_divideBy_105 : decode cX8_divideBy 105 = .ok (.iaload, 1) := by decide +kernel
theorem dX8_divideBy_106 : decode cX8_divideBy 106 = .ok (.invokevirtual 161, 3) := by decide +kernel
theorem dX8_divideBy_109 : decode cX8_divideBy 109 = .ok (.iastore, 1) := by decide +kernel
theorem dX8_divideBy_110 : decode cX8_divideBy 110 = .ok (.iinc 3 1, 3) := by decide +kernel
theorem dX8_divideBy_113 : decode cX8_divideBy 113 = .ok (.goto (-78), 3) := by decide +kernel
theorem dX8_divideBy_116 : decode cX8_divideBy 116 = .ok (.return_, 1) := by decide +kernel
set_option maxRecDepth 20000 in
theorem ggX8_divide_J7_fill_53178 : GoodIn wsX8_divide wsJ7_fill_53178 := goodIn_r _ [9] (by decide +kernel) (by decide +kernel)
set_option maxRecDepth 20000 in
theorem gX8_divide_J7_fill_53178 : GoodIn wsX8_divide (va_wsS RX8 138 yJ7_fill_53178 wsJ7_fill_53178) := goodIn_app (goodIn_of _ (by decide +kernel)) ggX8_divide_J7_fill_53178
set_option maxRecDepth 20000 in
theorem ggX8_divide_X2_times : GoodIn wsX8_divide wsX2_times := goodIn_r _ [14, 15, 16, 17, 13, 18, 19, 20, 21, 22, 23, 24, 25, 26, 49, 50, 51, 52, 53, 54, 55, 56] (by decide +kernel) (by decide +kernel)
set_option maxRecDepth 20000 in
theorem gX8_divide_X2_times : GoodIn wsX8_divide (wsV RX8 76 RX2 yX2_times wsX2_times) := goodIn_app (goodIn_of _ (by decide +kernel)) ggX8_divide_X2_times
set_option maxRecDepth 20000 in
theorem ggX8_divide_X2_negative : GoodIn wsX8_divide wsX2_negative := goodIn_r _ [30, 20, 31, 32, 33, 13, 34, 19, 21, 22, 23, 24, 25, 26, 49, 50, 51, 52, 53, 54, 55, 56] (by decide +kernel) (by decide +kernel)
set_option maxRecDepth 20000 in
theorem gX8_divide_X2_negative : GoodIn wsX8_divide (wsV RX8 164 RX2 yX2_negative wsX2_negative) := goodIn_app (goodIn_of _ (by decide +kernel)) ggX8_divide_X2_negative
set_option maxRecDepth 20000 in
theorem ggX8_divide_X2_plusTimes : GoodIn wsX8_divide wsX2_plusTimes := goodIn_r _ [38, 31, 32, 33, 13, 34, 19, 21, 20, 15, 16, 17, 18, 22, 23, 24, 25, 26, 49, 50, 51, 52, 53, 54, 55, 56] (by decide +kernel) (by decide +kernel)
set_option maxRecDepth 20000 in
theorem gX8_divide_X2_plusTimes : GoodIn wsX8_divide (wsV RX8 157 RX2 yX2_plusTimes wsX2_plusTimes) := goodIn_app (goodIn_of _ (by decide +kernel)) ggX8_divide_X2_plusTimes
theorem dX8_divide_0 : decode cX8_divide 0 = .ok (.aload_n 0, 1) := by decide +kernel
theorem dX8_divide_1 : decode cX8_divide 1 = .ok (.getfield 34, 3) := by decide +kernel
theorem dX8_divide_4 : decode cX8_divide 4 = .ok (.iconst 0, 1) := by decide +kernel
theorem dX8_divide_5 : decode cX8_divide 5 = .ok (.invokestatic 138, 3) := by decide +kernel
theorem dX8_divide_8 : decode cX8_divide 8 = .ok (.iload_n 1, 1) := by decide +kernel
theorem dX8_divide_9 : decode cX8_divide 9 = .ok (.iload_n 2, 1) := by decide +kernel
theorem dX8_divide_10 : decode cX8_divide 10 = .ok (.isub, 1) := by decide +kernel
theorem dX8_divide_11 : decode cX8_divide 11 = .ok (.istore_n 3, 1) := by decide +kernel
theorem dX8_divide_12 : decode cX8_divide 12 = .ok (.iload_n 3, 1) := by decide +kernel
theorem dX8_divide_13 : decode cX8_divide 13 = .ok (.ifCond .lt 109, 3) := by decide +kernel
theorem dX8_divide_16 : decode cX8_divide 16 = .ok (.aload_n 0, 1) := by decide +kernel
theorem dX8_divide_17 : decode cX8_divide 17 = .ok (.getfield 28, 3) := by decide +kernel
theorem dX8_divide_20 : decode cX8_divide 20 = .ok (.iload_n 3, 1) := by decide +kernel
theorem dX8_divide_21 : decode cX8_divide 21 = .ok (.aload_n 0, 1) := by decide +kernel
theorem dX8_divide_22 : decode cX8_divide 22 = .ok (.getfield 50, 3) := by decide +kernel
theorem dX8_divide_25 : decode cX8_divide 25 = .ok (.irem, 1) := by decide +kernel
theorem dX8_divide_26 : decode cX8_divide 26 = .ok (.aaload, 1) := by decide +kernel
theorem dX8_divide_27 : decode cX8_divide 27 = .ok (.astore 4, 2) := by decide +kernel
theorem dX8_divide_29 : decode cX8_divide 29 = .ok (.aload_n 0, 1) := by decide +kernel
theorem dX8_divide_30 : decode cX8_divide 30 = .ok (.getfield 34, 3) := by decide +kernel
theorem dX8_divide_33 : decode cX8_divide 33 = .ok (.iload_n 3, 1) := by decide +kernel
theorem dX8_divide_34 : decode cX8_divide 34 = .ok (.aload_n 0, 1) := by decide +kernel
theorem dX8_divide_35 : decode cX8_divide 35 = .ok (.getfield 37, 3) := by decide +kernel
theorem dX8_divide_38 : decode cX8_divide 38 = .ok (.aload_n 0, 1) := by decide +kernel
theorem dX8_divide_39 : decode cX8_divide 39 = .ok (.getfield 31, 3) := by decide +kernel
theorem dX8_divide_42 : decode cX8_divide 42 = .ok (.iload_n 3, 1) := by decide +kernel
theorem dX8_divide_43 : decode cX8_divide 43 = .ok (.iload_n 2, 1) := by decide +kernel
theorem dX8_divide_44 : decode cX8_divide 44 = .ok (.iadd, 1) := by decide +kernel
theorem dX8_divide_45 : decode cX8_divide 45 = .ok (.iaload, 1) := by decide +kernel
theorem dX8_divide_46 : decode cX8_divide 46 = .ok (.aload 4, 2) := by decide +kernel
theorem dX8_divide_48 : decode cX8_divide 48 = .ok (.iconst 5, 1) := by decide +kernel
theorem dX8_divide_49 : decode cX8_divide 49 = .ok (.iaload, 1) := by decide +kernel
theorem dX8_divide_50 : decode cX8_divide 50 = .ok (.invokevirtual 76, 3) := by decide +kernel
theorem dX8_divide_53 : decode cX8_divide 53 = .ok (.iastore, 1) := by decide +kernel
theorem dX8_divide_54 : decode cX8_divide 54 = .ok (.aload_n 0, 1) := by decide +kernel
theorem dX8_divide_55 : decode cX8_divide 55 = .ok (.getfield 37, 3) := by decide +kernel
theorem dX8_divide_58 : decode cX8_divide 58 = .ok (.aload_n 0, 1) := by decide +kernel
theorem dX8_divide_59 : decode cX8_divide 59 = .ok (.getfield 34, 3) := by decide +kernel
theorem dX8_divide_62 : decode cX8_divide 62 = .ok (.iload_n 3, 1) := by decide +kernel
theorem dX8_divide_63 : decode cX8_divide 63 = .ok (.iaload, 1) := by decide +kernel
theorem dX8_divide_64 : decode cX8_divide 64 = .ok (.invokevirtual 164, 3) := by decide +kernel
theorem dX8_divide_67 : decode cX8_divide 67 = .ok (.istore 5, 2) := by decide +kernel
theorem dX8_divide_69 : decode cX8_divide 69 = .ok (.iconst 0, 1) := by decide +kernel
theorem dX8_divide_70 : decode cX8_divide 70 = .ok (.istore 6, 2) := by decide +kernel
theorem dX8_divide_72 : decode cX8_divide 72 = .ok (.iload 6, 2) := by decide +kernel
theorem dX8_divide_74 : decode cX8_divide 74 = .ok (.iload_n 2, 1) := by decide +kernel
theorem dX8_divide_75 : decode cX8_divide 75 = .ok (.if_icmp .gt 41, 3) := by decide +kernel
theorem dX8_divide_78 : decode cX8_divide 78 = .ok (.aload_n 0, 1) := by decide +kernel
theorem dX8_divide_79 : decode cX8_divide 79 = .ok (.getfield 31, 3) := by decide +kernel
theorem dX8_divide_82 : decode cX8_divide 82 = .ok (.iload_n 3, 1) := by decide +kernel
theorem dX8_divide_83 : decode cX8_divide 83 = .ok (.iload 6, 2) := by decide +kernel
theorem dX8_divide_85 : decode cX8_divide 85 = .ok (.iadd, 1) := by decide +kernel
theorem dX8_divide_86 : decode cX8_divide 86 = .ok (.aload_n 0, 1) := by decide +kernel
theorem dX8_divide_87 : decode cX8_divide 87 = .ok (.getfield 37, 3) := by decide +kernel
theorem dX8_divide_90 : decode cX8_divide 90 = .ok (.aload_n 0, 1) := by decide +kernel
theorem dX8_divide_91 : decode cX8_divide 91 = .ok (.getfield 31, 3) := by decide +kernel
theorem dX8_divide_94 : decode cX8_divide 94 = .ok (.iload_n 3, 1) := by decide +kernel
theorem dX8_divide_95 : decode cX8_divide 95 = .ok (.iload 6, 2) := by decide +kernel
theorem dX8_divide_97 : decode cX8_divide 97 = .ok (.iadd, 1) := by decide +kernel
theorem dX8_divide_98 : decode cX8_divide 98 = .ok (.iaload, 1) := by decide +kernel
theorem dX8_divide_99 : decode cX8_divide 99 = .ok (.iload 5, 2) := by decide +kernel
theorem dX8_divide_101 : decode cX8_divide 101 = .ok (.aload 4, 2) := by decide +kernel
theorem dX8_divide_103 : decode cX8_divide 103 = .ok (.iload 6, 2) := by decide +kernel
theorem dX8_divide_105 : decode cX8_divide 105 = .ok (.iaload, 1) := by decide +kernel
theorem dX8_divide_106 : decode cX8_divide 106 = .ok (.invokevirtual 157, 3) := by decide +kernel
theorem dX8_divide_109 : decode cX8_divide 109 = .ok (.iastore, 1) := by decide +kernel
theorem dX8_divide_110 : decode cX8_divide 110 = .ok (.iinc 6 1, 3) := by decide +kernel
theorem dX8_divide_113 : decode cX8_divide 113 = .ok (.goto (-41), 3) := by decide +kernel
theorem dX8_divide_116 : decode cX8_divide 116 = .ok (.iinc 3 (-1), 3) := by decide +kernel
theorem dX8_divide_119 : decode cX8_divide 119 = .ok (.goto (-107), 3) := by decide +kernel
theorem dX8_divide_122 : decode cX8_divide 122 = .ok (.return_, 1) := by decide +kernel
set_option maxRecDepth 20000 in
theorem ggX8_leads_X8_putBehind : GoodIn wsX8_leads wsX8_putBehind := goodIn_r _ [8, 9, 10, 11, 12, 13, 14, 15, 16, 17, 18, 19, 20, 21, 22, 23, 24, 25, 26, 27, 28, 29, 30, 31, 32, 33, 34, 35, 36, 37, 38, 39, 40, 41, 42, 43, 44, 92, 93, 94, 95, 96, 97, 98, 99, 100, 101, 102, 103, 104, 105, 106, 107, 108, 109] (by decide +kernel) (by decide +kernel)
set_option maxRecDepth 20000 in
theorem gX8_leads_X8_putBehind : GoodIn wsX8_leads (wsV RX8 147 RX8 yX8_putBehind wsX8_putBehind) := goodIn_app (goodIn_of _ (by decide +kernel)) ggX8_leads_X8_putBehind
set_option maxRecDepth 20000 in
theorem ggX8_leads_X8_divideBy : GoodIn wsX8_leads wsX8_divideBy := goodIn_r _ [48, 49, 10, 11, 12, 13, 14, 50, 51, 52, 53, 22, 54, 55, 56, 57, 58, 59, 60, 61, 62, 63, 31, 32, 33, 34, 28, 30, 29, 35, 36, 37, 38, 39, 40, 41, 42, 43, 44, 92, 93, 94, 95, 96, 97, 98, 99, 100, 101, 102, 103, 104, 105, 106, 107, 108, 109] (by decide +kernel) (by decide +kernel)
set_option maxRecDepth 20000 in
theorem gX8_leads_X8_divideBy : GoodIn wsX8_leads (wsV RX8 167 RX8 yX8_divideBy wsX8_divideBy) := goodIn_app (goodIn_of _ (by decide +kernel)) ggX8_leads_X8_divideBy
set_option maxRecDepth 20000 in
theorem ggX8_leads_X8_divide : GoodIn wsX8_leads wsX8_divide := goodIn_r _ [67, 68, 49, 50, 14, 3, 15, 16, 17, 18, 69, 61, 62, 22, 63, 31, 32, 33, 34, 28, 30, 29, 35, 36, 37, 38, 39, 70, 71, 72, 73, 24, 25, 26, 27, 19, 20, 21, 23, 92, 93, 94, 95, 96, 97, 98, 99, 100, 101, 102, 103, 104, 105, 106, 107, 108, 109] (by decide +kernel) (by decide +kernel)
set_option maxRecDepth 20000 in
theorem gX8_leads_X8_divide : GoodIn wsX8_leads (wsV RX8 170 RX8 yX8_divide wsX8_divide) := goodIn_app (goodIn_of _ (by decide +kernel)) ggX8_leads_X8_divide
theorem dX8_leads_0 : decode cX8_leads 0 = .ok (.aload_n 0, 1) := by decide +kernel
theorem dX8_leads_1 : decode cX8_leads 1 = .ok (.aload_n 2, 1) := by decide +kernel
theorem dX8_leads_2 : decode cX8_leads 2 = .ok (.iload_n 3, 1) := by decide +kernel
theorem dX8_leads_3 : decode cX8_leads 3 = .ok (.aload_n 1, 1) := by decide +kernel
theorem dX8_leads_4 : decode cX8_leads 4 = .ok (.getfield 144, 3) := by decide +kernel
theorem dX8_leads_7 : decode cX8_leads 7 = .ok (.aload_n 1, 1) := by decide +kernel
theorem dX8_leads_8 : decode cX8_leads 8 = .ok (.getfield 126, 3) := by decide +kernel
theorem dX8_leads_11 : decode cX8_leads 11 = .ok (.aload_n 0, 1) := by decide +kernel
theorem dX8_leads_12 : decode cX8_leads 12 = .ok (.getfield 31, 3) := by decide +kernel
theorem dX8_leads_15 : decode cX8_leads 15 = .ok (.invokevirtual 147, 3) := by decide +kernel
theorem dX8_leads_18 : decode cX8_leads 18 = .ok (.aload_n 0, 1) := by decide +kernel
theorem dX8_leads_19 : decode cX8_leads 19 = .ok (.aload_n 2, 1) := by decide +kernel
theorem dX8_leads_20 : decode cX8_leads 20 = .ok (.iload_n 3, 1) := by decide +kernel
theorem dX8_leads_21 : decode cX8_leads 21 = .ok (.invokevirtual 167, 3) := by decide +kernel
theorem dX8_leads_24 : decode cX8_leads 24 = .ok (.aload_n 0, 1) := by decide +kernel
theorem dX8_leads_25 : decode cX8_leads 25 = .ok (.iload_n 3, 1) := by decide +kernel
theorem dX8_leads_26 : decode cX8_leads 26 = .ok (.aload_n 1, 1) := by decide +kernel
theorem dX8_leads_27 : decode cX8_leads 27 = .ok (.getfield 126, 3) := by decide +kernel
theorem dX8_leads_30 : decode cX8_leads 30 = .ok (.iadd, 1) := by decide +kernel
theorem dX8_leads_31 : decode cX8_leads 31 = .ok (.iload_n 3, 1) := by decide +kernel
theorem dX8_leads_32 : decode cX8_leads 32 = .ok (.invokevirtual 170, 3) := by decide +kernel
theorem dX8_leads_35 : decode cX8_leads 35 = .ok (.iconst 0, 1) := by decide +kernel
theorem dX8_leads_36 : decode cX8_leads 36 = .ok (.istore 4, 2) := by decide +kernel
theorem dX8_leads_38 : decode cX8_leads 38 = .ok (.iload 4, 2) := by decide +kernel
theorem dX8_leads_40 : decode cX8_leads 40 = .ok (.iload_n 3, 1) := by decide +kernel
theorem dX8_leads_41 : decode cX8_leads 41 = .ok (.if_icmp .ge 21, 3) := by decide +kernel
theorem dX8_leads_44 : decode cX8_leads 44 = .ok (.aload_n 0, 1) := by decide +kernel
theorem dX8_leads_45 : decode cX8_leads 45 = .ok (.getfield 31, 3) := by decide +kernel
theorem dX8_leads_48 : decode cX8_leads 48 = .ok (.iload 4, 2) := by decide +kernel
theorem dX8_leads_50 : decode cX8_leads 50 = .ok (.iaload, 1) := by decide +kernel
theorem dX8_leads_51 : decode cX8_leads 51 = .ok (.ifCond .eq 5, 3) := by decide +kernel
theorem dX8_leads_54 : decode cX8_leads 54 = .ok (.iconst 0, 1) := by decide +kernel
theorem dX8_leads_55 : decode cX8_leads 55 = .ok (.ireturn, 1) := by decide +kernel
theorem dX8_leads_56 : decode cX8_leads 56 = .ok (.iinc 4 1, 3) := by decide +kernel
theorem dX8_leads_59 : decode cX8_leads 59 = .ok (.goto (-21), 3) := by decide +kernel
theorem dX8_leads_62 : decode cX8_leads 62 = .ok (.iconst 1, 1) := by decide +kernel
theorem dX8_leads_63 : decode cX8_leads 63 = .ok (.ireturn, 1) := by decide +kernel
set_option maxRecDepth 20000 in
theorem ggX8_wayBack_X8_divideBy : GoodIn wsX8_wayBack wsX8_divideBy := goodIn_r _ [10, 11, 12, 13, 14, 15, 3, 2, 16, 17, 18, 19, 20, 21, 22, 23, 24, 25, 26, 27, 28, 29, 30, 31, 32, 33, 34, 35, 36, 37, 38, 39, 40, 41, 42, 43, 44, 45, 46, 160, 161, 162, 163, 164, 165, 166, 167, 168, 169, 170, 171, 172, 173, 174, 175, 176, 177] (by decide +kernel) (by decide +kernel)
set_option maxRecDepth 20000 in
theorem gX8_wayBack_X8_divideBy : GoodIn wsX8_wayBack (wsV RX8 167 RX8 yX8_divideBy wsX8_divideBy) := goodIn_app (goodIn_of _ (by decide +kernel)) ggX8_wayBack_X8_divideBy
set_option maxRecDepth 20000 in
theorem ggX8_wayBack_X6_begin : GoodIn wsX8_wayBack wsX6_begin := goodIn_r _ [51, 52, 53, 54, 55, 56, 57, 58, 178, 179, 180, 181, 182, 183, 184, 185, 186, 187] (by decide +kernel) (by decide +kernel)
set_option maxRecDepth 20000 in
theorem gX8_wayBack_X6_begin : GoodIn wsX8_wayBack (wsV RX8 93 RX6 yX6_begin wsX6_begin) := goodIn_app (goodIn_of _ (by decide +kernel)) ggX8_wayBack_X6_begin
set_option maxRecDepth 20000 in
theorem ggX8_wayBack_X8_divideSumOf : GoodIn wsX8_wayBack wsX8_divideSumOf := goodIn_r _ [62, 3, 5, 63, 64, 65, 9, 66, 67, 68, 69, 70, 19, 71, 72, 73, 74, 75, 76, 77, 78, 79, 80, 81, 82, 83, 84, 85, 86, 87, 88, 89, 12, 13, 14, 15, 90, 91, 92, 93, 94, 95, 96, 97, 34, 36, 35, 30, 31, 32, 33, 37, 38, 39, 40, 41, 42, 43, 44, 45, 46, 98, 99, 100, 101, 102, 103, 104, 105, 106, 107, 108, 109, 110, 111, 112, 11, 2, 113, 27, 28, 29, 114, 115, 116, 117, 160, 161, 162, 163, 164, 165, 166, 167, 168, 169, 188, 189, 190, 191, 192, 193, 194, 195, 196, 197, 198, 199, 200, 201, 202, 203, 204, 205, 170, 171, 172, 173, 174, 175, 176, 177] (by decide +kernel) (by decide +kernel)
set_option maxRecDepth 20000 in
theorem gX8_wayBack_X8_divideSumOf : GoodIn wsX8_wayBack (wsV RX8 176 RX8 yX8_divideSumOf wsX8_divideSumOf) := goodIn_app (goodIn_of _ (by decide +kernel)) ggX8_wayBack_X8_divideSumOf
set_option maxRecDepth 20000 in
theorem ggX8_wayBack_X6_putElement : GoodIn wsX8_wayBack wsX6_putElement := goodIn_r _ [121, 122, 123, 124, 125, 126, 127, 50, 128, 56, 129, 178, 179, 180, 181, 182, 183, 184, 185, 186, 187, 170, 171, 172, 173, 174, 175, 176, 177] (by decide +kernel) (by decide +kernel)
set_option maxRecDepth 20000 in
theorem gX8_wayBack_X6_putElement : GoodIn wsX8_wayBack (wsV RX8 99 RX6 yX6_putElement wsX6_putElement) := goodIn_app (goodIn_of _ (by decide +kernel)) ggX8_wayBack_X6_putElement
set_option maxRecDepth 20000 in
theorem ggX8_wayBack_X6_feed : GoodIn wsX8_wayBack wsX6_feed := goodIn_r _ [133, 58, 134, 57, 56, 135, 82, 83, 84, 136, 137, 138, 50, 139, 124, 129, 140, 141, 142, 143, 144, 145, 146, 147, 148, 149, 150, 122, 151, 152, 153, 154, 155, 156, 157, 158, 159, 178, 179, 180, 181, 182, 183, 184, 185, 186, 187, 170, 171, 172, 173, 174, 175, 176, 177] (by decide +kernel) (by decide +kernel)
set_option maxRecDepth 20000 in
theorem gX8_wayBack_X6_feed : GoodIn wsX8_wayBack (wsV RX8 103 RX6 yX6_feed wsX6_feed) := goodIn_app (goodIn_of _ (by decide +kernel)) ggX8_wayBack_X6_feed
theorem dX8_wayBack_0 : decode cX8_wayBack 0 = .ok (.aload_n 0, 1) := by decide +kernel
theorem dX8_wayBack_1 : decode cX8_wayBack 1 = .ok (.aload_n 2, 1) := by decide +kernel
theorem dX8_wayBack_2 : decode cX8_wayBack 2 = .ok (.iload_n 3, 1) := by decide +kernel
theorem dX8_wayBack_3 : decode cX8_wayBack 3 = .ok (.invokevirtual 167, 3) := by decide +kernel
theorem dX8_wayBack_6 : decode cX8_wayBack 6 = .ok (.aload_n 0, 1) := by decide +kernel
theorem dX8_wayBack_7 : decode cX8_wayBack 7 = .ok (.getfield 41, 3) := by decide +kernel
theorem dX8_wayBack_10 : decode cX8_wayBack 10 = .ok (.iload_n 3, 1) := by decide +kernel
theorem dX8_wayBack_11 : decode cX8_wayBack 11 = .ok (.aload_n 0, 1) := by decide +kernel
theorem dX8_wayBack_12 : decode cX8_wayBack 12 = .ok (.getfield 50, 3) := by decide +kernel
theorem dX8_wayBack_15 : decode cX8_wayBack 15 = .ok (.imul, 1) := by decide +kernel
theorem dX8_wayBack_16 : decode cX8_wayBack 16 = .ok (.invokevirtual 93, 3) := by decide +kernel
theorem dX8_wayBack_19 : decode cX8_wayBack 19 = .ok (.iconst 0, 1) := by decide +kernel
theorem dX8_wayBack_20 : decode cX8_wayBack 20 = .ok (.istore 4, 2) := by decide +kernel
theorem dX8_wayBack_22 : decode cX8_wayBack 22 = .ok (.iconst 0, 1) := by decide +kernel
theorem dX8_wayBack_23 : decode cX8_wayBack 23 = .ok (.istore 5, 2) := by decide +kernel
theorem dX8_wayBack_25 : decode cX8_wayBack 25 = .ok (.iload 5, 2) := by decide +kernel
theorem dX8_wayBack_27 : decode cX8_wayBack 27 = .ok (.iconst 4, 1) := by decide +kernel
theorem dX8_wayBack_28 : decode cX8_wayBack 28 = .ok (.if_icmp .gt 75, 3) := by decide +kernel
theorem dX8_wayBack_31 : decode cX8_wayBack 31 = .ok (.iload 4, 2) := by decide +kernel
theorem dX8_wayBack_33 : decode cX8_wayBack 33 = .ok (.ifCond .ne 70, 3) := by decide +kernel
theorem dX8_wayBack_36 : decode cX8_wayBack 36 = .ok (.aload_n 0, 1) := by decide +kernel
theorem dX8_wayBack_37 : decode cX8_wayBack 37 = .ok (.aload_n 1, 1) := by decide +kernel
theorem dX8_wayBack_38 : decode cX8_wayBack 38 = .ok (.aload_n 0, 1) := by decide +kernel
theorem dX8_wayBack_39 : decode cX8_wayBack 39 = .ok (.getfield 37, 3) := by decide +kernel
theorem dX8_wayBack_42 : decode cX8_wayBack 42 = .ok (.getfield 173, 3) := by decide +kernel
theorem dX8_wayBack_45 : decode cX8_wayBack 45 = .ok (.iload 5, 2) := by decide +kernel
theorem dX8_wayBack_47 : decode cX8_wayBack 47 = .ok (.iaload, 1) := by decide +kernel
theorem dX8_wayBack_48 : decode cX8_wayBack 48 = .ok (.iload_n 3, 1) := by decide +kernel
theorem dX8_wayBack_49 : decode cX8_wayBack 49 = .ok (.invokevirtual 176, 3) := by decide +kernel
theorem dX8_wayBack_52 : decode cX8_wayBack 52 = .ok (.iconst 0, 1) := by decide +kernel
theorem dX8_wayBack_53 : decode cX8_wayBack 53 = .ok (.istore 6, 2) := by decide +kernel
theorem dX8_wayBack_55 : decode cX8_wayBack 55 = .ok (.iload 6, 2) := by decide +kernel
theorem dX8_wayBack_57 : decode cX8_wayBack 57 = .ok (.iload_n 3, 1) := by decide +kernel
theorem dX8_wayBack_58 : decode cX8_wayBack 58 = .ok (.if_icmp .ge 30, 3) := by decide +kernel
theorem dX8_wayBack_61 : decode cX8_wayBack 61 = .ok (.aload_n 0, 1) := by decide +kernel
theorem dX8_wayBack_62 : decode cX8_wayBack 62 = .ok (.getfield 41, 3) := by decide +kernel
theorem dX8_wayBack_65 : decode cX8_wayBack 65 = .ok (.iload 6, 2) := by decide +kernel
theorem dX8_wayBack_67 : decode cX8_wayBack 67 = .ok (.aload_n 0, 1) := by decide +kernel
theorem dX8_wayBack_68 : decode cX8_wayBack 68 = .ok (.getfield 50, 3) := by decide +kernel
theorem dX8_wayBack_71 : decode cX8_wayBack 71 = .ok (.imul, 1) := by decide +kernel
theorem dX8_wayBack_72 : decode cX8_wayBack 72 = .ok (.aload_n 0, 1) := by decide +kernel
theorem dX8_wayBack_73 : decode cX8_wayBack 73 = .ok (.getfield 31, 3) := by decide +kernel
theorem dX8_wayBack_76 : decode cX8_wayBack 76 = .ok (.iload 6, 2) := by decide +kernel
theorem dX8_wayBack_78 : decode cX8_wayBack 78 = .ok (.iaload, 1) := by decide +kernel
theorem dX8_wayBack_79 : decode cX8_wayBack 79 = .ok (.invokevirtual 99, 3) := by decide +kernel
theorem dX8_wayBack_82 : decode cX8_wayBack 82 = .ok (.iinc 6 1, 3) := by decide +kernel
theorem dX8_wayBack_85 : decode cX8_wayBack 85 = .ok (.goto (-30), 3) := by decide +kernel
theorem dX8_wayBack_88 : decode cX8_wayBack 88 = .ok (.aload_n 0, 1) := by decide +kernel
theorem dX8_wayBack_89 : decode cX8_wayBack 89 = .ok (.getfield 41, 3) := by decide +kernel
theorem dX8_wayBack_92 : decode cX8_wayBack 92 = .ok (.invokevirtual 103, 3) := by decide +kernel
theorem dX8_wayBack_95 : decode cX8_wayBack 95 = .ok (.istore 4, 2) := by decide +kernel
theorem dX8_wayBack_97 : decode cX8_wayBack 97 = .ok (.iinc 5 1, 3) := by decide +kernel
theorem dX8_wayBack_100 : decode cX8_wayBack 100 = .ok (.goto (-75), 3) := by decide +kernel
theorem dX8_wayBack_103 : decode cX8_wayBack 103 = .ok (.iload 4, 2) := by decide +kernel
theorem dX8_wayBack_105 : decode cX8_wayBack 105 = .ok (.ifCond .eq 11, 3) := by decide +kernel
theorem dX8_wayBack_108 : decode cX8_wayBack 108 = .ok (.aload_n 0, 1) := by decide +kernel
theorem dX8_wayBack_109 : decode cX8_wayBack 109 = .ok (.aload_n 1, 1) := by decide +kernel
theorem dX8_wayBack_110 : decode cX8_wayBack 110 = .ok (.iload 4, 2) := by decide +kernel
theorem dX8_wayBack_112 : decode cX8_wayBack 112 = .ok (.iload_n 3, 1) := by decide +kernel
theorem dX8_wayBack_113 : decode cX8_wayBack 113 = .ok (.invokevirtual 176, 3) := by decide +kernel
theorem dX8_wayBack_116 : decode cX8_wayBack 116 = .ok (.iload 4, 2) := by decide +kernel
theorem dX8_wayBack_118 : decode cX8_wayBack 118 = .ok (.ireturn, 1) := by decide +kernel
set_option maxRecDepth 20000 in
theorem ggX8_divideSumOf_X8_lengthOf : GoodIn wsX8_divideSumOf wsX8_lengthOf := goodIn_r _ [7, 1, 8, 9, 10, 11, 12, 13, 14, 86, 87, 88, 89, 90, 91, 92, 93, 94, 95, 96, 97, 98, 99, 100, 101, 102, 103, 104, 105, 106, 107, 108, 109, 110, 111, 112, 113, 114, 115, 116, 117, 118, 119, 120, 121] (by decide +kernel) (by decide +kernel)
set_option maxRecDepth 20000 in
theorem gX8_divideSumOf_X8_lengthOf : GoodIn wsX8_divideSumOf (wsV RX8 112 RX8 yX8_lengthOf wsX8_lengthOf) := goodIn_app (goodIn_of _ (by decide +kernel)) ggX8_divideSumOf_X8_lengthOf
set_option maxRecDepth 20000 in
theorem ggX8_divideSumOf_X2_degreeOf : GoodIn wsX8_divideSumOf wsX2_degreeOf := goodIn_r _ [13, 14, 114, 115, 116, 117, 118, 119, 120, 121] (by decide +kernel) (by decide +kernel)
set_option maxRecDepth 20000 in
theorem gX8_divideSumOf_X2_degreeOf : GoodIn wsX8_divideSumOf (wsV RX8 55 RX2 yX2_degreeOf wsX2_degreeOf) := goodIn_app (goodIn_of _ (by decide +kernel)) ggX8_divideSumOf_X2_degreeOf
set_option maxRecDepth 20000 in
theorem ggX8_divideSumOf_X8_raisePowers : GoodIn wsX8_divideSumOf wsX8_raisePowers := goodIn_r _ [18, 19, 20, 21, 8, 22, 23, 24, 25, 26, 27, 28, 29, 6, 30, 31, 32, 33, 34, 35, 1, 36, 37, 38, 12, 39, 40, 41, 42, 43, 44, 45, 46, 47, 48, 49, 50, 51, 52, 53, 54, 55, 56, 57, 58, 59, 60, 86, 87, 88, 89, 90, 91, 92, 93, 94, 95, 96, 97, 98, 99, 100, 101, 102, 103, 104, 105, 106, 107, 108, 109, 110, 111, 112, 113, 114, 115, 116, 117, 118, 119, 120, 121] (by decide +kernel) (by decide +kernel)
set_option maxRecDepth 20000 in
theorem gX8_divideSumOf_X8_raisePowers : GoodIn wsX8_divideSumOf (wsV RX8 119 RX8 yX8_raisePowers wsX8_raisePowers) := goodIn_app (goodIn_of _ (by decide +kernel)) ggX8_divideSumOf_X8_raisePowers
set_option maxRecDepth 20000 in
theorem ggX8_divideSumOf_J7_fill_53178 : GoodIn wsX8_divideSumOf wsJ7_fill_53178 := goodIn_r _ [26] (by decide +kernel) (by decide +kernel)
set_option maxRecDepth 20000 in
theorem gX8_divideSumOf_J7_fill_53178 : GoodIn wsX8_divideSumOf (va_wsS RX8 138 yJ7_fill_53178 wsJ7_fill_53178) := goodIn_app (goodIn_of _ (by decide +kernel)) ggX8_divideSumOf_J7_fill_53178
set_option maxRecDepth 20000 in
theorem ggX8_divideSumOf_X8_mixed : GoodIn wsX8_divideSumOf wsX8_mixed := goodIn_r _ [64, 20, 1, 21, 65, 66, 67, 12, 68, 14, 46, 69, 41, 42, 43, 44, 45, 70, 52, 53, 54, 55, 86, 87, 88, 89, 90, 91, 92, 93, 94, 95, 114, 115, 116, 117, 118, 119, 120, 121] (by decide +kernel) (by decide +kernel)
set_option maxRecDepth 20000 in
theorem gX8_divideSumOf_X8_mixed : GoodIn wsX8_divideSumOf (wsV RX8 123 RX8 yX8_mixed wsX8_mixed) := goodIn_app (goodIn_of _ (by decide +kernel)) ggX8_divideSumOf_X8_mixed
set_option maxRecDepth 20000 in
theorem ggX8_divideSumOf_X8_divide : GoodIn wsX8_divideSumOf wsX8_divide := goodIn_r _ [74, 75, 76, 77, 1, 2, 23, 24, 25, 26, 78, 79, 80, 12, 81, 47, 48, 49, 50, 44, 46, 45, 51, 52, 53, 54, 55, 82, 83, 84, 85, 40, 41, 42, 43, 36, 37, 38, 39, 86, 87, 88, 89, 90, 91, 92, 93, 94, 95, 114, 115, 116, 117, 118, 119, 120, 121] (by decide +kernel) (by decide +kernel)
set_option maxRecDepth 20000 in
theorem gX8_divideSumOf_X8_divide : GoodIn wsX8_divideSumOf (wsV RX8 170 RX8 yX8_divide wsX8_divide) := goodIn_app (goodIn_of _ (by decide +kernel)) ggX8_divideSumOf_X8_divide
theorem dX8_divideSumOf_0 : decode cX8_divideSumOf 0 = .ok (.aload_n 0, 1) := by decide +kernel
theorem dX8_divideSumOf_1 : decode cX8_divideSumOf 1 = .ok (.aload_n 1, 1) := by decide +kernel
theorem dX8_divideSumOf_2 : decode cX8_divideSumOf 2 = .ok (.iload_n 2, 1) := by decide +kernel
theorem dX8_divideSumOf_3 : decode cX8_divideSumOf 3 = .ok (.invokevirtual 112, 3) := by decide +kernel
theorem dX8_divideSumOf_6 : decode cX8_divideSumOf 6 = .ok (.istore 4, 2) := by decide +kernel
theorem dX8_divideSumOf_8 : decode cX8_divideSumOf 8 = .ok (.aload_n 0, 1) := by decide +kernel
theorem dX8_divideSumOf_9 : decode cX8_divideSumOf 9 = .ok (.aload_n 1, 1) := by decide +kernel
theorem dX8_divideSumOf_10 : decode cX8_divideSumOf 10 = .ok (.aload_n 0, 1) := by decide +kernel
theorem dX8_divideSumOf_11 : decode cX8_divideSumOf 11 = .ok (.getfield 37, 3) := by decide +kernel
theorem dX8_divideSumOf_14 : decode cX8_divideSumOf 14 = .ok (.iload_n 2, 1) := by decide +kernel
theorem dX8_divideSumOf_15 : decode cX8_divideSumOf 15 = .ok (.invokevirtual 55, 3) := by decide +kernel
theorem dX8_divideSumOf_18 : decode cX8_divideSumOf 18 = .ok (.invokevirtual 119, 3) := by decide +kernel
theorem dX8_divideSumOf_21 : decode cX8_divideSumOf 21 = .ok (.aload_n 0, 1) := by decide +kernel
theorem dX8_divideSumOf_22 : decode cX8_divideSumOf 22 = .ok (.getfield 31, 3) := by decide +kernel
theorem dX8_divideSumOf_25 : decode cX8_divideSumOf 25 = .ok (.iconst 0, 1) := by decide +kernel
theorem dX8_divideSumOf_26 : decode cX8_divideSumOf 26 = .ok (.invokestatic 138, 3) := by decide +kernel
theorem dX8_divideSumOf_29 : decode cX8_divideSumOf 29 = .ok (.iconst 0, 1) := by decide +kernel
theorem dX8_divideSumOf_30 : decode cX8_divideSumOf 30 = .ok (.istore 5, 2) := by decide +kernel
theorem dX8_divideSumOf_32 : decode cX8_divideSumOf 32 = .ok (.iload 5, 2) := by decide +kernel
theorem dX8_divideSumOf_34 : decode cX8_divideSumOf 34 = .ok (.iload 4, 2) := by decide +kernel
theorem dX8_divideSumOf_36 : decode cX8_divideSumOf 36 = .ok (.if_icmp .gt 23, 3) := by decide +kernel
theorem dX8_divideSumOf_39 : decode cX8_divideSumOf 39 = .ok (.aload_n 0, 1) := by decide +kernel
theorem dX8_divideSumOf_40 : decode cX8_divideSumOf 40 = .ok (.getfield 31, 3) := by decide +kernel
theorem dX8_divideSumOf_43 : decode cX8_divideSumOf 43 = .ok (.iload 5, 2) := by decide +kernel
theorem dX8_divideSumOf_45 : decode cX8_divideSumOf 45 = .ok (.aload_n 0, 1) := by decide +kernel
theorem dX8_divideSumOf_46 : decode cX8_divideSumOf 46 = .ok (.iload_n 2, 1) := by decide +kernel
theorem dX8_divideSumOf_47 : decode cX8_divideSumOf 47 = .ok (.iload 5, 2) := by decide +kernel
theorem dX8_divideSumOf_49 : decode cX8_divideSumOf 49 = .ok (.invokevirtual 123, 3) := by decide +kernel
theorem dX8_divideSumOf_52 : decode cX8_divideSumOf 52 = .ok (.iastore, 1) := by decide +kernel
theorem dX8_divideSumOf_53 : decode cX8_divideSumOf 53 = .ok (.iinc 5 1, 3) := by decide +kernel
theorem dX8_divideSumOf_56 : decode cX8_divideSumOf 56 = .ok (.goto (-24), 3) := by decide +kernel
theorem dX8_divideSumOf_59 : decode cX8_divideSumOf 59 = .ok (.aload_n 0, 1) := by decide +kernel
theorem dX8_divideSumOf_60 : decode cX8_divideSumOf 60 = .ok (.iload 4, 2) := by decide +kernel
theorem dX8_divideSumOf_62 : decode cX8_divideSumOf 62 = .ok (.iload_n 3, 1) := by decide +kernel
theorem dX8_divideSumOf_63 : decode cX8_divideSumOf 63 = .ok (.invokevirtual 170, 3) := by decide +kernel
theorem dX8_divideSumOf_66 : decode cX8_divideSumOf 66 = .ok (.return_, 1) := by decide +kernel
set_option maxRecDepth 20000 in
theorem ggX8_turned_X2_inverse : GoodIn wsX8_turned wsX2_inverse := goodIn_r _ [9, 10, 11, 12, 13, 8, 14, 15, 16, 17, 18, 19, 20, 21, 22, 23, 24, 25, 26, 27, 28, 29, 30, 65, 66, 67, 68, 69, 70, 71, 72] (by decide +kernel) (by decide +kernel)
set_option maxRecDepth 20000 in
theorem gX8_turned_X2_inverse : GoodIn wsX8_turned (wsV RX8 73 RX2 yX2_inverse wsX2_inverse) := goodIn_app (goodIn_of _ (by decide +kernel)) ggX8_turned_X2_inverse
set_option maxRecDepth 20000 in
theorem ggX8_turned_X2_times : GoodIn wsX8_turned wsX2_times := goodIn_r _ [18, 19, 20, 21, 8, 22, 23, 24, 25, 26, 27, 28, 29, 30, 65, 66, 67, 68, 69, 70, 71, 72] (by decide +kernel) (by decide +kernel)
set_option maxRecDepth 20000 in
theorem gX8_turned_X2_times : GoodIn wsX8_turned (wsV RX8 76 RX2 yX2_times wsX2_times) := goodIn_app (goodIn_of _ (by decide +kernel)) ggX8_turned_X2_times
set_option maxRecDepth 20000 in
theorem ggX8_turned_X2_raised : GoodIn wsX8_turned wsX2_raised := goodIn_r _ [35, 23, 24, 25, 36, 26, 27, 28, 8, 29, 30, 65, 66, 67, 68, 69, 70, 71, 72] (by decide +kernel) (by decide +kernel)
set_option maxRecDepth 20000 in
theorem gX8_turned_X2_raised : GoodIn wsX8_turned (wsV RX8 161 RX2 yX2_raised wsX2_raised) := goodIn_app (goodIn_of _ (by decide +kernel)) ggX8_turned_X2_raised
theorem dX8_turned_0 : decode cX8_turned 0 = .ok (.iconst 4, 1) := by decide +kernel
theorem dX8_turned_1 : decode cX8_turned 1 = .ok (.newarray .int, 2) := by decide +kernel
theorem dX8_turned_3 : decode cX8_turned 3 = .ok (.astore_n 3, 1) := by decide +kernel
theorem dX8_turned_4 : decode cX8_turned 4 = .ok (.aload_n 0, 1) := by decide +kernel
theorem dX8_turned_5 : decode cX8_turned 5 = .ok (.getfield 37, 3) := by decide +kernel
theorem dX8_turned_8 : decode cX8_turned 8 = .ok (.iload_n 2, 1) := by decide +kernel
theorem dX8_turned_9 : decode cX8_turned 9 = .ok (.invokevirtual 73, 3) := by decide +kernel
theorem dX8_turned_12 : decode cX8_turned 12 = .ok (.istore 4, 2) := by decide +kernel
theorem dX8_turned_14 : decode cX8_turned 14 = .ok (.iload_n 2, 1) := by decide +kernel
theorem dX8_turned_15 : decode cX8_turned 15 = .ok (.istore 5, 2) := by decide +kernel
theorem dX8_turned_17 : decode cX8_turned 17 = .ok (.iconst 0, 1) := by decide +kernel
theorem dX8_turned_18 : decode cX8_turned 18 = .ok (.istore 6, 2) := by decide +kernel
theorem dX8_turned_20 : decode cX8_turned 20 = .ok (.iload 6, 2) := by decide +kernel
theorem dX8_turned_22 : decode cX8_turned 22 = .ok (.aload_n 1, 1) := by decide +kernel
theorem dX8_turned_23 : decode cX8_turned 23 = .ok (.getfield 126, 3) := by decide +kernel
theorem dX8_turned_26 : decode cX8_turned 26 = .ok (.if_icmp .gt 49, 3) := by decide +kernel
theorem dX8_turned_29 : decode cX8_turned 29 = .ok (.aload_n 3, 1) := by decide +kernel
theorem dX8_turned_30 : decode cX8_turned 30 = .ok (.iload 6, 2) := by decide +kernel
theorem dX8_turned_32 : decode cX8_turned 32 = .ok (.aload_n 0, 1) := by decide +kernel
theorem dX8_turned_33 : decode cX8_turned 33 = .ok (.getfield 37, 3) := by decide +kernel
theorem dX8_turned_36 : decode cX8_turned 36 = .ok (.aload_n 1, 1) := by decide +kernel
theorem dX8_turned_37 : decode cX8_turned 37 = .ok (.getfield 144, 3) := by decide +kernel
theorem dX8_turned_40 : decode cX8_turned 40 = .ok (.iload 6, 2) := by decide +kernel
theorem dX8_turned_42 : decode cX8_turned 42 = .ok (.iaload, 1) := by decide +kernel
theorem dX8_turned_43 : decode cX8_turned 43 = .ok (.aload_n 0, 1) := by decide +kernel
theorem dX8_turned_44 : decode cX8_turned 44 = .ok (.getfield 37, 3) := by decide +kernel
theorem dX8_turned_47 : decode cX8_turned 47 = .ok (.iload 5, 2) := by decide +kernel
theorem dX8_turned_49 : decode cX8_turned 49 = .ok (.iload 4, 2) := by decide +kernel
theorem dX8_turned_51 : decode cX8_turned 51 = .ok (.invokevirtual 76, 3) := by decide +kernel
theorem dX8_turned_54 : decode cX8_turned 54 = .ok (.invokevirtual 76, 3) := by decide +kernel
theorem dX8_turned_57 : decode cX8_turned 57 = .ok (.iastore, 1) := by decide +kernel
theorem dX8_turned_58 : decode cX8_turned 58 = .ok (.aload_n 0, 1) := by decide +kernel
theorem dX8_turned_59 : decode cX8_turned 59 = .ok (.getfield 37, 3) := by decide +kernel
theorem dX8_turned_62 : decode cX8_turned 62 = .ok (.iload 5, 2) := by decide +kernel
theorem dX8_turned_64 : decode cX8_turned 64 = .ok (.invokevirtual 161, 3) := by decide +kernel
theorem dX8_turned_67 : decode cX8_turned 67 = .ok (.istore 5, 2) := by decide +kernel
theorem dX8_turned_69 : decode cX8_turned 69 = .ok (.iinc 6 1, 3) := by decide +kernel
theorem dX8_turned_72 : decode cX8_turned 72 = .ok (.goto (-52), 3) := by decide +kernel
theorem dX8_turned_75 : decode cX8_turned 75 = .ok (.aload_n 3, 1) := by decide +kernel
theorem dX8_turned_76 : decode cX8_turned 76 = .ok (.areturn, 1) := by decide +kernel
set_option maxRecDepth 20000 in
theorem ggX8_turnsFromTo_X6_begin : GoodIn wsX8_turnsFromTo wsX6_begin := goodIn_r _ [10, 11, 12, 13, 14, 15, 16, 17, 139, 140, 141, 142, 143, 144, 145, 146, 147, 148] (by decide +kernel) (by decide +kernel)
set_option maxRecDepth 20000 in
theorem gX8_turnsFromTo_X6_begin : GoodIn wsX8_turnsFromTo (wsV RX8 93 RX6 yX6_begin wsX6_begin) := goodIn_app (goodIn_of _ (by decide +kernel)) ggX8_turnsFromTo_X6_begin
set_option maxRecDepth 20000 in
theorem ggX8_turnsFromTo_X8_putTurning : GoodIn wsX8_turnsFromTo wsX8_putTurning := goodIn_r _ [22, 1, 4, 23, 2, 3, 24, 25, 26, 27, 28, 29, 30, 31, 32, 33, 34, 35, 36, 37, 38, 39, 40, 41, 42, 43, 44, 45, 46, 47, 48, 49, 50, 51, 52, 53, 54, 55, 9, 56, 57, 58, 59, 60, 61, 62, 63, 15, 64, 65, 66, 67, 68, 69, 103, 104, 105, 106, 107, 108, 109, 110, 111, 112, 113, 114, 115, 116, 117, 118, 119, 120, 121, 122, 123, 124, 125, 126, 127, 128, 129, 130, 131, 132, 133, 134, 135, 136, 137, 138, 139, 140, 141, 142, 143, 144, 145, 146, 147, 148] (by decide +kernel) (by decide +kernel)
set_option maxRecDepth 20000 in
theorem gX8_turnsFromTo_X8_putTurning : GoodIn wsX8_turnsFromTo (wsV RX8 180 RX8 yX8_putTurning wsX8_putTurning) := goodIn_app (goodIn_of _ (by decide +kernel)) ggX8_turnsFromTo_X8_putTurning
set_option maxRecDepth 20000 in
theorem ggX8_turnsFromTo_X6_feed : GoodIn wsX8_turnsFromTo wsX6_feed := goodIn_r _ [73, 17, 74, 16, 15, 75, 76, 77, 78, 79, 80, 81, 9, 82, 59, 64, 83, 84, 85, 86, 87, 88, 89, 90, 91, 92, 93, 57, 94, 95, 96, 97, 98, 99, 100, 101, 102, 139, 140, 141, 142, 143, 144, 145, 146, 147, 148, 131, 132, 133, 134, 135, 136, 137, 138] (by decide +kernel) (by decide +kernel)
set_option maxRecDepth 20000 in
theorem gX8_turnsFromTo_X6_feed : GoodIn wsX8_turnsFromTo (wsV RX8 103 RX6 yX6_feed wsX6_feed) := goodIn_app (goodIn_of _ (by decide +kernel)) ggX8_turnsFromTo_X6_feed
theorem dX8_turnsFromTo_0 : decode cX8_turnsFromTo 0 = .ok (.aload_n 1, 1) := by decide +kernel
theorem dX8_turnsFromTo_1 : decode cX8_turnsFromTo 1 = .ok (.getfield 126, 3) := by decide +kernel
theorem dX8_turnsFromTo_4 : decode cX8_turnsFromTo 4 = .ok (.aload_n 2, 1) := by decide +kernel
theorem dX8_turnsFromTo_5 : decode cX8_turnsFromTo 5 = .ok (.getfield 126, 3) := by decide +kernel
theorem dX8_turnsFromTo_8 : decode cX8_turnsFromTo 8 = .ok (.if_icmp .eq 5, 3) := by decide +kernel
theorem dX8_turnsFromTo_11 : decode cX8_turnsFromTo 11 = .ok (.iconst 0, 1) := by decide +kernel
theorem dX8_turnsFromTo_12 : decode cX8_turnsFromTo 12 = .ok (.ireturn, 1) := by decide +kernel
theorem dX8_turnsFromTo_13 : decode cX8_turnsFromTo 13 = .ok (.aload_n 0, 1) := by decide +kernel
theorem dX8_turnsFromTo_14 : decode cX8_turnsFromTo 14 = .ok (.getfield 41, 3) := by decide +kernel
theorem dX8_turnsFromTo_17 : decode cX8_turnsFromTo 17 = .ok (.aload_n 1, 1) := by decide +kernel
theorem dX8_turnsFromTo_18 : decode cX8_turnsFromTo 18 = .ok (.getfield 126, 3) := by decide +kernel
theorem dX8_turnsFromTo_21 : decode cX8_turnsFromTo 21 = .ok (.iconst 1, 1) := by decide +kernel
theorem dX8_turnsFromTo_22 : decode cX8_turnsFromTo 22 = .ok (.iadd, 1) := by decide +kernel
theorem dX8_turnsFromTo_23 : decode cX8_turnsFromTo 23 = .ok (.aload_n 0, 1) := by decide +kernel
theorem dX8_turnsFromTo_24 : decode cX8_turnsFromTo 24 = .ok (.getfield 50, 3) := by decide +kernel
theorem dX8_turnsFromTo_27 : decode cX8_turnsFromTo 27 = .ok (.imul, 1) := by decide +kernel
theorem dX8_turnsFromTo_28 : decode cX8_turnsFromTo 28 = .ok (.invokevirtual 93, 3) := by decide +kernel
theorem dX8_turnsFromTo_31 : decode cX8_turnsFromTo 31 = .ok (.iconst 0, 1) := by decide +kernel
theorem dX8_turnsFromTo_32 : decode cX8_turnsFromTo 32 = .ok (.istore_n 3, 1) := by decide +kernel
theorem dX8_turnsFromTo_33 : decode cX8_turnsFromTo 33 = .ok (.iconst 0, 1) := by decide +kernel
theorem dX8_turnsFromTo_34 : decode cX8_turnsFromTo 34 = .ok (.istore 4, 2) := by decide +kernel
theorem dX8_turnsFromTo_36 : decode cX8_turnsFromTo 36 = .ok (.iload 4, 2) := by decide +kernel
theorem dX8_turnsFromTo_38 : decode cX8_turnsFromTo 38 = .ok (.aload_n 0, 1) := by decide +kernel
theorem dX8_turnsFromTo_39 : decode cX8_turnsFromTo 39 = .ok (.getfield 50, 3) := by decide +kernel
theorem dX8_turnsFromTo_42 : decode cX8_turnsFromTo 42 = .ok (.if_icmp .ge 38, 3) := by decide +kernel
theorem dX8_turnsFromTo_45 : decode cX8_turnsFromTo 45 = .ok (.aload_n 0, 1) := by decide +kernel
theorem dX8_turnsFromTo_46 : decode cX8_turnsFromTo 46 = .ok (.aload_n 1, 1) := by decide +kernel
theorem dX8_turnsFromTo_47 : decode cX8_turnsFromTo 47 = .ok (.aload_n 2, 1) := by decide +kernel
theorem dX8_turnsFromTo_48 : decode cX8_turnsFromTo 48 = .ok (.aload_n 0, 1) := by decide +kernel
theorem dX8_turnsFromTo_49 : decode cX8_turnsFromTo 49 = .ok (.getfield 37, 3) := by decide +kernel
theorem dX8_turnsFromTo_52 : decode cX8_turnsFromTo 52 = .ok (.getfield 173, 3) := by decide +kernel
theorem dX8_turnsFromTo_55 : decode cX8_turnsFromTo 55 = .ok (.iload 4, 2) := by decide +kernel
theorem dX8_turnsFromTo_57 : decode cX8_turnsFromTo 57 = .ok (.iaload, 1) := by decide +kernel
theorem dX8_turnsFromTo_58 : decode cX8_turnsFromTo 58 = .ok (.invokevirtual 180, 3) := by decide +kernel
theorem dX8_turnsFromTo_61 : decode cX8_turnsFromTo 61 = .ok (.aload_n 0, 1) := by decide +kernel
theorem dX8_turnsFromTo_62 : decode cX8_turnsFromTo 62 = .ok (.getfield 41, 3) := by decide +kernel
theorem dX8_turnsFromTo_65 : decode cX8_turnsFromTo 65 = .ok (.invokevirtual 103, 3) := by decide +kernel
theorem dX8_turnsFromTo_68 : decode cX8_turnsFromTo 68 = .ok (.ifCond .eq 6, 3) := by decide +kernel
theorem dX8_turnsFromTo_71 : decode cX8_turnsFromTo 71 = .ok (.iinc 3 1, 3) := by decide +kernel
theorem dX8_turnsFromTo_74 : decode cX8_turnsFromTo 74 = .ok (.iinc 4 1, 3) := by decide +kernel
theorem dX8_turnsFromTo_77 : decode cX8_turnsFromTo 77 = .ok (.goto (-41), 3) := by decide +kernel
theorem dX8_turnsFromTo_80 : decode cX8_turnsFromTo 80 = .ok (.aload_n 0, 1) := by decide +kernel
theorem dX8_turnsFromTo_81 : decode cX8_turnsFromTo 81 = .ok (.getfield 37, 3) := by decide +kernel
theorem dX8_turnsFromTo_84 : decode cX8_turnsFromTo 84 = .ok (.getfield 173, 3) := by decide +kernel
theorem dX8_turnsFromTo_87 : decode cX8_turnsFromTo 87 = .ok (.iload_n 3, 1) := by decide +kernel
theorem dX8_turnsFromTo_88 : decode cX8_turnsFromTo 88 = .ok (.iaload, 1) := by decide +kernel
theorem dX8_turnsFromTo_89 : decode cX8_turnsFromTo 89 = .ok (.iconst 1, 1) := by decide +kernel
theorem dX8_turnsFromTo_90 : decode cX8_turnsFromTo 90 = .ok (.isub, 1) := by decide +kernel
theorem dX8_turnsFromTo_91 : decode cX8_turnsFromTo 91 = .ok (.ireturn, 1) := by decide +kernel
set_option maxRecDepth 20000 in
theorem ggX8_putTurning_X2_times : GoodIn wsX8_putTurning wsX2_times := goodIn_r _ [10, 11, 12, 13, 9, 14, 15, 16, 17, 18, 19, 20, 21, 22, 82, 83, 84, 85, 86, 87, 88, 89] (by decide +kernel) (by decide +kernel)
set_option maxRecDepth 20000 in
theorem gX8_putTurning_X2_times : GoodIn wsX8_putTurning (wsV RX8 76 RX2 yX2_times wsX2_times) := goodIn_app (goodIn_of _ (by decide +kernel)) ggX8_putTurning_X2_times
set_option maxRecDepth 20000 in
theorem ggX8_putTurning_X2_negative : GoodIn wsX8_putTurning wsX2_negative := goodIn_r _ [26, 16, 27, 28, 29, 9, 30, 15, 17, 18, 19, 20, 21, 22, 82, 83, 84, 85, 86, 87, 88, 89] (by decide +kernel) (by decide +kernel)
set_option maxRecDepth 20000 in
theorem gX8_putTurning_X2_negative : GoodIn wsX8_putTurning (wsV RX8 164 RX2 yX2_negative wsX2_negative) := goodIn_app (goodIn_of _ (by decide +kernel)) ggX8_putTurning_X2_negative
set_option maxRecDepth 20000 in
theorem ggX8_putTurning_X2_plusTimes : GoodIn wsX8_putTurning wsX2_plusTimes := goodIn_r _ [34, 27, 28, 29, 9, 30, 15, 17, 16, 11, 12, 13, 14, 18, 19, 20, 21, 22, 82, 83, 84, 85, 86, 87, 88, 89] (by decide +kernel) (by decide +kernel)
set_option maxRecDepth 20000 in
theorem gX8_putTurning_X2_plusTimes : GoodIn wsX8_putTurning (wsV RX8 157 RX2 yX2_plusTimes wsX2_plusTimes) := goodIn_app (goodIn_of _ (by decide +kernel)) ggX8_putTurning_X2_plusTimes
set_option maxRecDepth 20000 in
theorem ggX8_putTurning_X6_putElement : GoodIn wsX8_putTurning wsX6_putElement := goodIn_r _ [39, 40, 41, 42, 43, 44, 45, 38, 46, 47, 48, 90, 91, 92, 93, 94, 95, 96, 97, 98, 99, 82, 83, 84, 85, 86, 87, 88, 89] (by decide +kernel) (by decide +kernel)
set_option maxRecDepth 20000 in
theorem gX8_putTurning_X6_putElement : GoodIn wsX8_putTurning (wsV RX8 99 RX6 yX6_putElement wsX6_putElement) := goodIn_app (goodIn_of _ (by decide +kernel)) ggX8_putTurning_X6_putElement
set_option maxRecDepth 20000 in
theorem ggX8_putTurning_X2_raised : GoodIn wsX8_putTurning wsX2_raised := goodIn_r _ [52, 15, 16, 17, 53, 18, 19, 20, 9, 21, 22, 82, 83, 84, 85, 86, 87, 88, 89] (by decide +kernel) (by decide +kernel)
set_option maxRecDepth 20000 in
theorem gX8_putTurning_X2_raised : GoodIn wsX8_putTurning (wsV RX8 161 RX2 yX2_raised wsX2_raised) := goodIn_app (goodIn_of _ (by decide +kernel)) ggX8_putTurning_X2_raised
theorem dX8_putTurning_0 : decode cX8_putTurning 0 = .ok (.iload_n 3, 1) := by decide +kernel
theorem dX8_putTurning_1 : decode cX8_putTurning 1 = .ok (.istore 4, 2) := by decide +kernel
theorem dX8_putTurning_3 : decode cX8_putTurning 3 = .ok (.iconst 0, 1) := by decide +kernel
theorem dX8_putTurning_4 : decode cX8_putTurning 4 = .ok (.istore 5, 2) := by decide +kernel
theorem dX8_putTurning_6 : decode cX8_putTurning 6 = .ok (.iload 5, 2) := by decide +kernel
theorem dX8_putTurning_8 : decode cX8_putTurning 8 = .ok (.aload_n 1, 1) := by decide +kernel
theorem dX8_putTurning_9 : decode cX8_putTurning 9 = .ok (.getfield 126, 3) := by decide +kernel
theorem dX8_putTurning_12 : decode cX8_putTurning 12 = .ok (.if_icmp .gt 76, 3) := by decide +kernel
theorem dX8_putTurning_15 : decode cX8_putTurning 15 = .ok (.aload_n 0, 1) := by decide +kernel
theorem dX8_putTurning_16 : decode cX8_putTurning 16 = .ok (.getfield 37, 3) := by decide +kernel
theorem dX8_putTurning_19 : decode cX8_putTurning 19 = .ok (.aload_n 0, 1) := by decide +kernel
theorem dX8_putTurning_20 : decode cX8_putTurning 20 = .ok (.getfield 37, 3) := by decide +kernel
theorem dX8_putTurning_23 : decode cX8_putTurning 23 = .ok (.aload_n 1, 1) := by decide +kernel
theorem dX8_putTurning_24 : decode cX8_putTurning 24 = .ok (.getfield 144, 3) := by decide +kernel
theorem dX8_putTurning_27 : decode cX8_putTurning 27 = .ok (.iload 5, 2) := by decide +kernel
theorem dX8_putTurning_29 : decode cX8_putTurning 29 = .ok (.iaload, 1) := by decide +kernel
theorem dX8_putTurning_30 : decode cX8_putTurning 30 = .ok (.iload 4, 2) := by decide +kernel
theorem dX8_putTurning_32 : decode cX8_putTurning 32 = .ok (.invokevirtual 76, 3) := by decide +kernel
theorem dX8_putTurning_35 : decode cX8_putTurning 35 = .ok (.invokevirtual 164, 3) := by decide +kernel
theorem dX8_putTurning_38 : decode cX8_putTurning 38 = .ok (.istore 6, 2) := by decide +kernel
theorem dX8_putTurning_40 : decode cX8_putTurning 40 = .ok (.aload_n 0, 1) := by decide +kernel
theorem dX8_putTurning_41 : decode cX8_putTurning 41 = .ok (.getfield 41, 3) := by decide +kernel
theorem dX8_putTurning_44 : decode cX8_putTurning 44 = .ok (.iload 5, 2) := by decide +kernel
theorem dX8_putTurning_46 : decode cX8_putTurning 46 = .ok (.aload_n 0, 1) := by decide +kernel
theorem dX8_putTurning_47 : decode cX8_putTurning 47 = .ok (.getfield 50, 3) := by decide +kernel
theorem dX8_putTurning_50 : decode cX8_putTurning 50 = .ok (.imul, 1) := by decide +kernel
theorem dX8_putTurning_51 : decode cX8_putTurning 51 = .ok (.aload_n 0, 1) := by decide +kernel
theorem dX8_putTurning_52 : decode cX8_putTurning 52 = .ok (.getfield 37, 3) := by decide +kernel
theorem dX8_putTurning_55 : decode cX8_putTurning 55 = .ok (.iload 6, 2) := by decide +kernel
theorem dX8_putTurning_57 : decode cX8_putTurning 57 = .ok (.aload_n 2, 1) := by decide +kernel
theorem dX8_putTurning_58 : decode cX8_putTurning 58 = .ok (.getfield 144, 3) := by decide +kernel
theorem dX8_putTurning_61 : decode cX8_putTurning 61 = .ok (.iload 5, 2) := by decide +kernel
theorem dX8_putTurning_63 : decode cX8_putTurning 63 = .ok (.iaload, 1) := by decide +kernel
theorem dX8_putTurning_64 : decode cX8_putTurning 64 = .ok (.iload_n 3, 1) := by decide +kernel
theorem dX8_putTurning_65 : decode cX8_putTurning 65 = .ok (.invokevirtual 157, 3) := by decide +kernel
theorem dX8_putTurning_68 : decode cX8_putTurning 68 = .ok (.invokevirtual 99, 3) := by decide +kernel
theorem dX8_putTurning_71 : decode cX8_putTurning 71 = .ok (.aload_n 0, 1) := by decide +kernel
theorem dX8_putTurning_72 : decode cX8_putTurning 72 = .ok (.getfield 37, 3) := by decide +kernel
theorem dX8_putTurning_75 : decode cX8_putTurning 75 = .ok (.iload 4, 2) := by decide +kernel
theorem dX8_putTurning_77 : decode cX8_putTurning 77 = .ok (.invokevirtual 161, 3) := by decide +kernel
theorem dX8_putTurning_80 : decode cX8_putTurning 80 = .ok (.istore 4, 2) := by decide +kernel
theorem dX8_putTurning_82 : decode cX8_putTurning 82 = .ok (.iinc 5 1, 3) := by decide +kernel
theorem dX8_putTurning_85 : decode cX8_putTurning 85 = .ok (.goto (-79), 3) := by decide +kernel
theorem dX8_putTurning_88 : decode cX8_putTurning 88 = .ok (.return_, 1) := by decide +kernel
theorem dX9_init_0 : decode cX9_init 0 = .ok (.aload_n 0, 1) := by decide +kernel
theorem dX9_init_1 : decode cX9_init 1 = .ok (.invokespecial 1, 3) := by decide +kernel
theorem dX9_init_4 : decode cX9_init 4 = .ok (.aload_n 0, 1) := by decide +kernel
theorem dX9_init_5 : decode cX9_init 5 = .ok (.bipush 16, 2) := by decide +kernel
theorem dX9_init_7 : decode cX9_init 7 = .ok (.newarray .int, 2) := by decide +kernel
theorem dX9_init_9 : decode cX9_init 9 = .ok (.putfield 9, 3) := by decide +kernel
theorem dX9_init_12 : decode cX9_init 12 = .ok (.aload_n 0, 1) := by decide +kernel
theorem dX9_init_13 : decode cX9_init 13 = .ok (.iconst 0, 1) := by decide +kernel
theorem dX9_init_14 : decode cX9_init 14 = .ok (.putfield 13, 3) := by decide +kernel
theorem dX9_init_17 : decode cX9_init 17 = .ok (.return_, 1) := by decide +kernel
theorem dX9_empty_0 : decode cX9_empty 0 = .ok (.aload_n 0, 1) := by decide +kernel
theorem dX9_empty_1 : decode cX9_empty 1 = .ok (.iconst 0, 1) := by decide +kernel
theorem dX9_empty_2 : decode cX9_empty 2 = .ok (.putfield 13, 3) := by decide +kernel
theorem dX9_empty_5 : decode cX9_empty 5 = .ok (.return_, 1) := by decide +kernel
theorem dX9_leave_0 : decode cX9_leave 0 = .ok (.aload_n 0, 1) := by decide +kernel
theorem dX9_leave_1 : decode cX9_leave 1 = .ok (.getfield 13, 3) := by decide +kernel
theorem dX9_leave_4 : decode cX9_leave 4 = .ok (.bipush 16, 2) := by decide +kernel
theorem dX9_leave_6 : decode cX9_leave 6 = .ok (.if_icmp .ge 23, 3) := by decide +kernel
theorem dX9_leave_9 : decode cX9_leave 9 = .ok (.aload_n 0, 1) := by decide +kernel
theorem dX9_leave_10 : decode cX9_leave 10 = .ok (.getfield 9, 3) := by decide +kernel
theorem dX9_leave_13 : decode cX9_leave 13 = .ok (.aload_n 0, 1) := by decide +kernel
theorem dX9_leave_14 : decode cX9_leave 14 = .ok (.getfield 13, 3) := by decide +kernel
theorem dX9_leave_17 : decode cX9_leave 17 = .ok (.iload_n 1, 1) := by decide +kernel
theorem dX9_leave_18 : decode cX9_leave 18 = .ok (.iastore, 1) := by decide +kernel
theorem dX9_leave_19 : decode cX9_leave 19 = .ok (.aload_n 0, 1) := by decide +kernel
theorem dX9_leave_20 : decode cX9_leave 20 = .ok (.dup, 1) := by decide +kernel
theorem dX9_leave_21 : decode cX9_leave 21 = .ok (.getfield 13, 3) := by decide +kernel
theorem dX9_leave_24 : decode cX9_leave 24 = .ok (.iconst 1, 1) := by decide +kernel
theorem dX9_leave_25 : decode cX9_leave 25 = .ok (.iadd, 1) := by decide +kernel
theorem dX9_leave_26 : decode cX9_leave 26 = .ok (.putfield 13, 3) := by decide +kernel
theorem dX9_leave_29 : decode cX9_leave 29 = .ok (.return_, 1) := by decide +kernel
theorem dX9_has_0 : decode cX9_has 0 = .ok (.iload_n 1, 1) := by decide +kernel
theorem dX9_has_1 : decode cX9_has 1 = .ok (.ifCond .lt 15, 3) := by decide +kernel
theorem dX9_has_4 : decode cX9_has 4 = .ok (.iload_n 1, 1) := by decide +kernel
theorem dX9_has_5 : decode cX9_has 5 = .ok (.aload_n 0, 1) := by decide +kernel
theorem dX9_has_6 : decode cX9_has 6 = .ok (.getfield 13, 3) := by decide +kernel
theorem dX9_has_9 : decode cX9_has 9 = .ok (.if_icmp .ge 7, 3) := by decide +kernel
theorem dX9_has_12 : decode cX9_has 12 = .ok (.iconst 1, 1) := by decide +kernel
theorem dX9_has_13 : decode cX9_has 13 = .ok (.goto 4, 3) := by decide +kernel
theorem dX9_has_16 : decode cX9_has 16 = .ok (.iconst 0, 1) := by decide +kernel
theorem dX9_has_17 : decode cX9_has 17 = .ok (.ireturn, 1) := by decide +kernel
theorem dX10_init_0 : decode cX10_init 0 = .ok (.aload_n 0, 1) := by decide +kernel
theorem dX10_init_1 : decode cX10_init 1 = .ok (.invokespecial 1, 3) := by decide +kernel
theorem dX10_init_4 : decode cX10_init 4 = .ok (.aload_n 0, 1) := by decide +kernel
theorem dX10_init_5 : decode cX10_init 5 = .ok (.aload_n 1, 1) := by decide +kernel
theorem dX10_init_6 : decode cX10_init 6 = .ok (.putfield 7, 3) := by decide +kernel
theorem dX10_init_9 : decode cX10_init 9 = .ok (.aload_n 0, 1) := by decide +kernel
theorem dX10_init_10 : decode cX10_init 10 = .ok (.iload_n 2, 1) := by decide +kernel
theorem dX10_init_11 : decode cX10_init 11 = .ok (.putfield 13, 3) := by decide +kernel
theorem dX10_init_14 : decode cX10_init 14 = .ok (.aload_n 0, 1) := by decide +kernel
theorem dX10_init_15 : decode cX10_init 15 = .ok (.iload_n 3, 1) := by decide +kernel
theorem dX10_init_16 : decode cX10_init 16 = .ok (.putfield 17, 3) := by decide +kernel
theorem dX10_init_19 : decode cX10_init 19 = .ok (.aload_n 0, 1) := by decide +kernel
theorem dX10_init_20 : decode cX10_init 20 = .ok (.iload 4, 2) := by decide +kernel
theorem dX10_init_22 : decode cX10_init 22 = .ok (.putfield 20, 3) := by decide +kernel
theorem dX10_init_25 : decode cX10_init 25 = .ok (.return_, 1) := by decide +kernel
set_option maxRecDepth 20000 in
theorem ggX10_sizeAsked_X9_leave : GoodIn wsX10_sizeAsked wsX9_leave := goodIn_r _ [6, 7, 8, 27, 28] (by decide +kernel) (by decide +kernel)
set_option maxRecDepth 20000 in
theorem gX10_sizeAsked_X9_leave : GoodIn wsX10_sizeAsked (wsV RX10 23 RX9 yX9_leave wsX9_leave) := goodIn_app (goodIn_of _ (by decide +kernel)) ggX10_sizeAsked_X9_leave
theorem dX10_sizeAsked_0 : decode cX10_sizeAsked 0 = .ok (.aload_n 1, 1) := by decide +kernel
theorem dX10_sizeAsked_1 : decode cX10_sizeAsked 1 = .ok (.bipush 10, 2) := by decide +kernel
theorem dX10_sizeAsked_3 : decode cX10_sizeAsked 3 = .ok (.invokevirtual 23, 3) := by decide +kernel
theorem dX10_sizeAsked_6 : decode cX10_sizeAsked 6 = .ok (.aload_n 0, 1) := by decide +kernel
theorem dX10_sizeAsked_7 : decode cX10_sizeAsked 7 = .ok (.getfield 13, 3) := by decide +kernel
theorem dX10_sizeAsked_10 : decode cX10_sizeAsked 10 = .ok (.ireturn, 1) := by decide +kernel
set_option maxRecDepth 20000 in
theorem ggX10_signAsked_X9_leave : GoodIn wsX10_signAsked wsX9_leave := goodIn_r _ [6, 7, 8, 27, 28] (by decide +kernel) (by decide +kernel)
set_option maxRecDepth 20000 in
theorem gX10_signAsked_X9_leave : GoodIn wsX10_signAsked (wsV RX10 23 RX9 yX9_leave wsX9_leave) := goodIn_app (goodIn_of _ (by decide +kernel)) ggX10_signAsked_X9_leave
theorem dX10_signAsked_0 : decode cX10_signAsked 0 = .ok (.aload_n 1, 1) := by decide +kernel
theorem dX10_signAsked_1 : decode cX10_signAsked 1 = .ok (.bipush 20, 2) := by decide +kernel
theorem dX10_signAsked_3 : decode cX10_signAsked 3 = .ok (.invokevirtual 23, 3) := by decide +kernel
theorem dX10_signAsked_6 : decode cX10_signAsked 6 = .ok (.aload_n 0, 1) := by decide +kernel
theorem dX10_signAsked_7 : decode cX10_signAsked 7 = .ok (.getfield 7, 3) := by decide +kernel
theorem dX10_signAsked_10 : decode cX10_signAsked 10 = .ok (.iconst 0, 1) := by decide +kernel
theorem dX10_signAsked_11 : decode cX10_signAsked 11 = .ok (.iaload, 1) := by decide +kernel
theorem dX10_signAsked_12 : decode cX10_signAsked 12 = .ok (.ireturn, 1) := by decide +kernel
set_option maxRecDepth 20000 in
theorem ggX11_init_X9_init : GoodIn wsX11_init wsX9_init := goodIn_r _ [40, 41, 2, 3, 12, 42, 43, 147, 148] (by decide +kernel) (by decide +kernel)
set_option maxRecDepth 20000 in
theorem gX11_init_X9_init_n23 : GoodIn wsX11_init (wsX9_init) := ggX11_init_X9_init
set_option maxRecDepth 20000 in
theorem ggX11_init_X2_init : GoodIn wsX11_init wsX2_init := goodIn_r _ [46, 47, 2, 3, 12, 48, 49, 50, 51, 52, 53, 54, 55, 56, 57, 58, 59, 60, 17, 61, 62, 63, 64, 65, 66, 67, 68, 69, 70, 71, 72, 73, 74, 75, 76, 77, 78, 79, 80, 81, 149, 150, 151, 152, 153, 154, 155, 156] (by decide +kernel) (by decide +kernel)
set_option maxRecDepth 20000 in
theorem gX11_init_X2_init : GoodIn wsX11_init (wsX2_init) := ggX11_init_X2_init
set_option maxRecDepth 20000 in
theorem ggX11_init_X6_init : GoodIn wsX11_init wsX6_init := goodIn_r _ [84, 85, 2, 3, 12, 86, 87, 88, 89, 90, 91, 92, 93, 94, 95, 96, 97, 157, 158, 159, 160, 161, 162, 163, 164, 165, 166, 149, 150, 151, 152, 153, 154, 155, 156] (by decide +kernel) (by decide +kernel)
set_option maxRecDepth 20000 in
theorem gX11_init_X6_init : GoodIn wsX11_init (wsX6_init) := ggX11_init_X6_init
set_option maxRecDepth 20000 in
theorem ggX11_init_X8_init : GoodIn wsX11_init wsX8_init := goodIn_r _ [100, 101, 2, 3, 102, 12, 103, 104, 105, 106, 107, 108, 109, 110, 111, 112, 113, 167, 168, 169, 170, 171, 172, 173, 174, 175, 176, 149, 150, 151, 152, 153, 154, 155, 156] (by decide +kernel) (by decide +kernel)
set_option maxRecDepth 20000 in
theorem gX11_init_X8_init : GoodIn wsX11_init (wsX8_init) := ggX11_init_X8_init
set_option maxRecDepth 20000 in
theorem ggX11_init_X0_init : GoodIn wsX11_init wsX0_init := goodIn_r _ [116, 117, 2, 3, 118, 12, 119, 120, 121, 122, 123, 124, 125, 126, 127, 128, 129, 130, 131, 132, 177, 178, 179, 180, 181, 182, 183, 184, 185, 186, 187, 188, 149, 150, 151, 152, 153, 154, 155, 156] (by decide +kernel) (by decide +kernel)
set_option maxRecDepth 20000 in
theorem gX11_init_X0_init : GoodIn wsX11_init (wsX0_init) := ggX11_init_X0_init
set_option maxRecDepth 20000 in
theorem ggX11_init_X5_init : GoodIn wsX11_init wsX5_init := goodIn_r _ [134, 135, 2, 3, 12, 136, 137, 138, 189, 190, 191] (by decide +kernel) (by decide +kernel)
set_option maxRecDepth 20000 in
theorem gX11_init_X5_init_n75 : GoodIn wsX11_init (wsX5_init) := ggX11_init_X5_init
theorem dX11_init_0 : decode cX11_init 0 = .ok (.aload_n 0, 1) := by decide +kernel
theorem dX11_init_1 : decode cX11_init 1 = .ok (.invokespecial 1, 3) := by decide +kernel
theorem dX11_init_4 : decode cX11_init 4 = .ok (.aload_n 0, 1) := by decide +kernel
theorem dX11_init_5 : decode cX11_init 5 = .ok (.bipush 8, 2) := by decide +kernel
theorem dX11_init_7 : decode cX11_init 7 = .ok (.anewarray 9, 3) := by decide +kernel
theorem dX11_init_10 : decode cX11_init 10 = .ok (.putfield 11, 3) := by decide +kernel
theorem dX11_init_13 : decode cX11_init 13 = .ok (.aload_n 0, 1) := by decide +kernel
theorem dX11_init_14 : decode cX11_init 14 = .ok (.bipush 10, 2) := by decide +kernel
theorem dX11_init_16 : decode cX11_init 16 = .ok (.anewarray 15, 3) := by decide +kernel
theorem dX11_init_19 : decode cX11_init 19 = .ok (.putfield 17, 3) := by decide +kernel
theorem dX11_init_22 : decode cX11_init 22 = .ok (.aload_n 0, 1) := by decide +kernel
theorem dX11_init_23 : decode cX11_init 23 = .ok (.new 21, 3) := by decide +kernel
theorem dX11_init_26 : decode cX11_init 26 = .ok (.dup, 1) := by decide +kernel
theorem dX11_init_27 : decode cX11_init 27 = .ok (.invokespecial 23, 3) := by decide +kernel
theorem dX11_init_30 : decode cX11_init 30 = .ok (.putfield 24, 3) := by decide +kernel
theorem dX11_init_33 : decode cX11_init 33 = .ok (.aload_n 0, 1) := by decide +kernel
theorem dX11_init_34 : decode cX11_init 34 = .ok (.iconst 5, 1) := by decide +kernel
theorem dX11_init_35 : decode cX11_init 35 = .ok (.newarray .int, 2) := by decide +kernel
theorem dX11_init_37 : decode cX11_init 37 = .ok (.putfield 28, 3) := by decide +kernel
theorem dX11_init_40 : decode cX11_init 40 = .ok (.aload_n 0, 1) := by decide +kernel
theorem dX11_init_41 : decode cX11_init 41 = .ok (.iconst 0, 1) := by decide +kernel
theorem dX11_init_42 : decode cX11_init 42 = .ok (.putfield 32, 3) := by decide +kernel
theorem dX11_init_45 : decode cX11_init 45 = .ok (.aload_n 0, 1) := by decide +kernel
theorem dX11_init_46 : decode cX11_init 46 = .ok (.new 36, 3) := by decide +kernel
theorem dX11_init_49 : decode cX11_init 49 = .ok (.dup, 1) := by decide +kernel
theorem dX11_init_50 : decode cX11_init 50 = .ok (.iload_n 1, 1) := by decide +kernel
theorem dX11_init_51 : decode cX11_init 51 = .ok (.iconst 3, 1) := by decide +kernel
theorem dX11_init_52 : decode cX11_init 52 = .ok (.if_icmp .eq 8, 3) := by decide +kernel
theorem dX11_init_55 : decode cX11_init 55 = .ok (.iload_n 1, 1) := by decide +kernel
theorem dX11_init_56 : decode cX11_init 56 = .ok (.iconst 5, 1) := by decide +kernel
theorem dX11_init_57 : decode cX11_init 57 = .ok (.if_icmp .ne 7, 3) := by decide +kernel
theorem dX11_init_60 : decode cX11_init 60 = .ok (.iload_n 1, 1) := by decide +kernel
theorem dX11_init_61 : decode cX11_init 61 = .ok (.goto 4, 3) := by decide +kernel
theorem dX11_init_64 : decode cX11_init 64 = .ok (.iconst 2, 1) := by decide +kernel
theorem dX11_init_65 : decode cX11_init 65 = .ok (.iconst 1, 1) := by decide +kernel
theorem dX11_init_66 : decode cX11_init 66 = .ok (.bipush 6, 2) := by decide +kernel
theorem dX11_init_68 : decode cX11_init 68 = .ok (.iload_n 2, 1) := by decide +kernel
theorem dX11_init_69 : decode cX11_init 69 = .ok (.invokestatic 38, 3) := by decide +kernel
theorem dX11_init_72 : decode cX11_init 72 = .ok (.invokestatic 44, 3) := by decide +kernel
theorem dX11_init_75 : decode cX11_init 75 = .ok (.invokespecial 47, 3) := by decide +kernel
theorem dX11_init_78 : decode cX11_init 78 = .ok (.putfield 50, 3) := by decide +kernel
theorem dX11_init_81 : decode cX11_init 81 = .ok (.new 54, 3) := by decide +kernel
theorem dX11_init_84 : decode cX11_init 84 = .ok (.dup, 1) := by decide +kernel
theorem dX11_init_85 : decode cX11_init 85 = .ok (.aload_n 0, 1) := by decide +kernel
theorem dX11_init_86 : decode cX11_init 86 = .ok (.getfield 50, 3) := by decide +kernel
theorem dX11_init_89 : decode cX11_init 89 = .ok (.invokespecial 56, 3) := by decide +kernel
theorem dX11_init_92 : decode cX11_init 92 = .ok (.astore_n 3, 1) := by decide +kernel
theorem dX11_init_93 : decode cX11_init 93 = .ok (.aload_n 0, 1) := by decide +kernel
theorem dX11_init_94 : decode cX11_init 94 = .ok (.new 59, 3) := by decide +kernel
theorem dX11_init_97 : decode cX11_init 97 = .ok (.dup, 1) := by decide +kernel
theorem dX11_init_98 : decode cX11_init 98 = .ok (.aload_n 0, 1) := by decide +kernel
theorem dX11_init_99 : decode cX11_init 99 = .ok (.getfield 50, 3) := by decide +kernel
theorem dX11_init_102 : decode cX11_init 102 = .ok (.aload_n 3, 1) := by decide +kernel
theorem dX11_init_103 : decode cX11_init 103 = .ok (.invokespecial 61, 3) := by decide +kernel
theorem dX11_init_106 : decode cX11_init 106 = .ok (.putfield 64, 3) := by decide +kernel
theorem dX11_init_109 : decode cX11_init 109 = .ok (.aload_n 0, 1) := by decide +kernel
theorem dX11_init_110 : decode cX11_init 110 = .ok (.new 68, 3) := by decide +kernel
theorem dX11_init_113 : decode cX11_init 113 = .ok (.dup, 1) := by decide +kernel
theorem dX11_init_114 : decode cX11_init 114 = .ok (.aload_n 0, 1) := by decide +kernel
theorem dX11_init_115 : decode cX11_init 115 = .ok (.getfield 50, 3) := by decide +kernel
theorem dX11_init_118 : decode cX11_init 118 = .ok (.aload_n 3, 1) := by decide +kernel
theorem dX11_init_119 : decode cX11_init 119 = .ok (.invokespecial 70, 3) := by decide +kernel
theorem dX11_init_122 : decode cX11_init 122 = .ok (.putfield 71, 3) := by decide +kernel
theorem dX11_init_125 : decode cX11_init 125 = .ok (.iconst 0, 1) := by decide +kernel
theorem dX11_init_126 : decode cX11_init 126 = .ok (.istore 4, 2) := by decide +kernel
theorem dX11_init_128 : decode cX11_init 128 = .ok (.iload 4, 2) := by decide +kernel
theorem dX11_init_130 : decode cX11_init 130 = .ok (.bipush 8, 2) := by decide +kernel
theorem dX11_init_132 : decode cX11_init 132 = .ok (.if_icmp .ge 23, 3) := by decide +kernel
theorem dX11_init_135 : decode cX11_init 135 = .ok (.aload_n 0, 1) := by decide +kernel
theorem dX11_init_136 : decode cX11_init 136 = .ok (.getfield 11, 3) := by decide +kernel
theorem dX11_init_139 : decode cX11_init 139 = .ok (.iload 4, 2) := by decide +kernel
theorem dX11_init_141 : decode cX11_init 141 = .ok (.new 9, 3) := by decide +kernel
theorem dX11_init_144 : decode cX11_init 144 = .ok (.dup, 1) := by decide +kernel
theorem dX11_init_145 : decode cX11_init 145 = .ok (.invokespecial 75, 3) := by decide +kernel
theorem dX11_init_148 : decode cX11_init 148 = .ok (.aastore, 1) := by decide +kernel
theorem dX11_init_149 : decode cX11_init 149 = .ok (.iinc 4 1, 3) := by decide +kernel
theorem dX11_init_152 : decode cX11_init 152 = .ok (.goto (-24), 3) := by decide +kernel
theorem dX11_init_155 : decode cX11_init 155 = .ok (.return_, 1) := by decide +kernel
set_option maxRecDepth 20000 in
theorem ggX11_row_X11_isRow : GoodIn wsX11_row wsX11_isRow := goodIn_r _ [6] (by decide +kernel) (by decide +kernel)
set_option maxRecDepth 20000 in
theorem gX11_row_X11_isRow : GoodIn wsX11_row (va_wsS RX11 76 yX11_isRow wsX11_isRow) := goodIn_app (goodIn_of _ (by decide +kernel)) ggX11_row_X11_isRow
set_option maxRecDepth 20000 in
theorem ggX11_row_X11_found : GoodIn wsX11_row wsX11_found := goodIn_r _ [10, 11, 12, 29, 30, 31, 32, 33, 34, 35, 36] (by decide +kernel) (by decide +kernel)
set_option maxRecDepth 20000 in
theorem gX11_row_X11_found : GoodIn wsX11_row (wsV RX11 81 RX11 yX11_found wsX11_found) := goodIn_app (goodIn_of _ (by decide +kernel)) ggX11_row_X11_found
set_option maxRecDepth 20000 in
theorem ggX11_row_X5_begin : GoodIn wsX11_row wsX5_begin := goodIn_r _ [17, 18, 19, 20, 21, 22, 23, 24, 37, 38, 39] (by decide +kernel) (by decide +kernel)
set_option maxRecDepth 20000 in
theorem gX11_row_X5_begin : GoodIn wsX11_row (wsV RX11 85 RX5 yX5_begin wsX5_begin) := goodIn_app (goodIn_of _ (by decide +kernel)) ggX11_row_X5_begin
set_option maxRecDepth 20000 in
theorem ggX11_row_X11_fine : GoodIn wsX11_row wsX11_fine := goodIn_r _ [28, 11, 29, 30, 31, 32, 33, 34, 35, 36] (by decide +kernel) (by decide +kernel)
set_option maxRecDepth 20000 in
theorem gX11_row_X11_fine : GoodIn wsX11_row (wsV RX11 88 RX11 yX11_fine wsX11_fine) := goodIn_app (goodIn_of _ (by decide +kernel)) ggX11_row_X11_fine
theorem dX11_row_0 : decode cX11_row 0 = .ok (.iload_n 1, 1) := by decide +kernel
theorem dX11_row_1 : decode cX11_row 1 = .ok (.invokestatic 76, 3) := by decide +kernel
theorem dX11_row_4 : decode cX11_row 4 = .ok (.ifCond .eq 18, 3) := by decide +kernel
theorem dX11_row_7 : decode cX11_row 7 = .ok (.iload_n 2, 1) := by decide +kernel
theorem dX11_row_8 : decode cX11_row 8 = .ok (.ifCond .lt 14, 3) := by decide +kernel
theorem dX11_row_11 : decode cX11_row 11 = .ok (.iload_n 2, 1) := by decide +kernel
theorem dX11_row_12 : decode cX11_row 12 = .ok (.iconst 3, 1) := by decide +kernel
theorem dX11_row_13 : decode cX11_row 13 = .ok (.if_icmp .ge 9, 3) := by decide +kernel
theorem dX11_row_16 : decode cX11_row 16 = .ok (.iload_n 3, 1) := by decide +kernel
theorem dX11_row_17 : decode cX11_row 17 = .ok (.bipush 24, 2) := by decide +kernel
theorem dX11_row_19 : decode cX11_row 19 = .ok (.if_icmp .le 6, 3) := by decide +kernel
theorem dX11_row_22 : decode cX11_row 22 = .ok (.ldc 80, 2) := by decide +kernel
theorem dX11_row_24 : decode cX11_row 24 = .ok (.ireturn, 1) := by decide +kernel
theorem dX11_row_25 : decode cX11_row 25 = .ok (.iload_n 3, 1) := by decide +kernel
theorem dX11_row_26 : decode cX11_row 26 = .ok (.ifCond .ge 9, 3) := by decide +kernel
theorem dX11_row_29 : decode cX11_row 29 = .ok (.aload_n 0, 1) := by decide +kernel
theorem dX11_row_30 : decode cX11_row 30 = .ok (.iconst 4, 1) := by decide +kernel
theorem dX11_row_31 : decode cX11_row 31 = .ok (.invokevirtual 81, 3) := by decide +kernel
theorem dX11_row_34 : decode cX11_row 34 = .ok (.ireturn, 1) := by decide +kernel
theorem dX11_row_35 : decode cX11_row 35 = .ok (.aload_n 0, 1) := by decide +kernel
theorem dX11_row_36 : decode cX11_row 36 = .ok (.getfield 11, 3) := by decide +kernel
theorem dX11_row_39 : decode cX11_row 39 = .ok (.iload_n 1, 1) := by decide +kernel
theorem dX11_row_40 : decode cX11_row 40 = .ok (.aaload, 1) := by decide +kernel
theorem dX11_row_41 : decode cX11_row 41 = .ok (.iload_n 2, 1) := by decide +kernel
theorem dX11_row_42 : decode cX11_row 42 = .ok (.iload_n 3, 1) := by decide +kernel
theorem dX11_row_43 : decode cX11_row 43 = .ok (.invokevirtual 85, 3) := by decide +kernel
theorem dX11_row_46 : decode cX11_row 46 = .ok (.aload_n 0, 1) := by decide +kernel
theorem dX11_row_47 : decode cX11_row 47 = .ok (.iload_n 3, 1) := by decide +kernel
theorem dX11_row_48 : decode cX11_row 48 = .ok (.invokevirtual 88, 3) := by decide +kernel
theorem dX11_row_51 : decode cX11_row 51 = .ok (.ireturn, 1) := by decide +kernel
set_option maxRecDepth 20000 in
theorem ggX11_set_X11_isRow : GoodIn wsX11_set wsX11_isRow := goodIn_r _ [6] (by decide +kernel) (by decide +kernel)
set_option maxRecDepth 20000 in
theorem gX11_set_X11_isRow : GoodIn wsX11_set (va_wsS RX11 76 yX11_isRow wsX11_isRow) := goodIn_app (goodIn_of _ (by decide +kernel)) ggX11_set_X11_isRow
set_option maxRecDepth 20000 in
theorem ggX11_set_X5_isMissing : GoodIn wsX11_set wsX5_isMissing := goodIn_r _ [11, 12, 41, 42, 43] (by decide +kernel) (by decide +kernel)
set_option maxRecDepth 20000 in
theorem gX11_set_X5_isMissing : GoodIn wsX11_set (wsV RX11 91 RX5 yX5_isMissing wsX5_isMissing) := goodIn_app (goodIn_of _ (by decide +kernel)) ggX11_set_X5_isMissing
set_option maxRecDepth 20000 in
theorem ggX11_set_X11_found : GoodIn wsX11_set wsX11_found := goodIn_r _ [16, 17, 18, 33, 34, 35, 36, 37, 38, 39, 40] (by decide +kernel) (by decide +kernel)
set_option maxRecDepth 20000 in
theorem gX11_set_X11_found : GoodIn wsX11_set (wsV RX11 81 RX11 yX11_found wsX11_found) := goodIn_app (goodIn_of _ (by decide +kernel)) ggX11_set_X11_found
set_option maxRecDepth 20000 in
theorem ggX11_set_X5_hasItems : GoodIn wsX11_set wsX5_hasItems := goodIn_r _ [22, 12, 41, 42, 43] (by decide +kernel) (by decide +kernel)
set_option maxRecDepth 20000 in
theorem gX11_set_X5_hasItems : GoodIn wsX11_set (wsV RX11 95 RX5 yX5_hasItems wsX5_hasItems) := goodIn_app (goodIn_of _ (by decide +kernel)) ggX11_set_X5_hasItems
set_option maxRecDepth 20000 in
theorem ggX11_set_X5_put : GoodIn wsX11_set wsX5_put := goodIn_r _ [26, 27, 28, 41, 42, 43] (by decide +kernel) (by decide +kernel)
set_option maxRecDepth 20000 in
theorem gX11_set_X5_put : GoodIn wsX11_set (wsV RX11 99 RX5 yX5_put wsX5_put) := goodIn_app (goodIn_of _ (by decide +kernel)) ggX11_set_X5_put
set_option maxRecDepth 20000 in
theorem ggX11_set_X11_fine : GoodIn wsX11_set wsX11_fine := goodIn_r _ [32, 17, 33, 34, 35, 36, 37, 38, 39, 40] (by decide +kernel) (by decide +kernel)
set_option maxRecDepth 20000 in
theorem gX11_set_X11_fine : GoodIn wsX11_set (wsV RX11 88 RX11 yX11_fine wsX11_fine) := goodIn_app (goodIn_of _ (by decide +kernel)) ggX11_set_X11_fine
theorem dX11_set_0 : decode cX11_set 0 = .ok (.iload_n 1, 1) := by decide +kernel
theorem dX11_set_1 : decode cX11_set 1 = .ok (.invokestatic 76, 3) := by decide +kernel
theorem dX11_set_4 : decode cX11_set 4 = .ok (.ifCond .ne 6, 3) := by decide +kernel
theorem dX11_set_7 : decode cX11_set 7 = .ok (.ldc 80, 2) := by decide +kernel
theorem dX11_set_9 : decode cX11_set 9 = .ok (.ireturn, 1) := by decide +kernel
theorem dX11_set_10 : decode cX11_set 10 = .ok (.aload_n 0, 1) := by decide +kernel
theorem dX11_set_11 : decode cX11_set 11 = .ok (.getfield 11, 3) := by decide +kernel
theorem dX11_set_14 : decode cX11_set 14 = .ok (.iload_n 1, 1) := by decide +kernel
theorem dX11_set_15 : decode cX11_set 15 = .ok (.aaload, 1) := by decide +kernel
theorem dX11_set_16 : decode cX11_set 16 = .ok (.astore 4, 2) := by decide +kernel
theorem dX11_set_18 : decode cX11_set 18 = .ok (.aload 4, 2) := by decide +kernel
theorem dX11_set_20 : decode cX11_set 20 = .ok (.invokevirtual 91, 3) := by decide +kernel
theorem dX11_set_23 : decode cX11_set 23 = .ok (.ifCond .eq 9, 3) := by decide +kernel
theorem dX11_set_26 : decode cX11_set 26 = .ok (.aload_n 0, 1) := by decide +kernel
theorem dX11_set_27 : decode cX11_set 27 = .ok (.iconst 1, 1) := by decide +kernel
theorem dX11_set_28 : decode cX11_set 28 = .ok (.invokevirtual 81, 3) := by decide +kernel
theorem dX11_set_31 : decode cX11_set 31 = .ok (.ireturn, 1) := by decide +kernel
theorem dX11_set_32 : decode cX11_set 32 = .ok (.aload 4, 2) := by decide +kernel
theorem dX11_set_34 : decode cX11_set 34 = .ok (.iload_n 2, 1) := by decide +kernel
theorem dX11_set_35 : decode cX11_set 35 = .ok (.iconst 1, 1) := by decide +kernel
theorem dX11_set_36 : decode cX11_set 36 = .ok (.invokevirtual 95, 3) := by decide +kernel
theorem dX11_set_39 : decode cX11_set 39 = .ok (.ifCond .ne 9, 3) := by decide +kernel
theorem dX11_set_42 : decode cX11_set 42 = .ok (.aload_n 0, 1) := by decide +kernel
theorem dX11_set_43 : decode cX11_set 43 = .ok (.iconst 2, 1) := by decide +kernel
theorem dX11_set_44 : decode cX11_set 44 = .ok (.invokevirtual 81, 3) := by decide +kernel
theorem dX11_set_47 : decode cX11_set 47 = .ok (.ireturn, 1) := by decide +kernel
theorem dX11_set_48 : decode cX11_set 48 = .ok (.aload_n 0, 1) := by decide +kernel
theorem dX11_set_49 : decode cX11_set 49 = .ok (.aload 4, 2) := by decide +kernel
theorem dX11_set_51 : decode cX11_set 51 = .ok (.iload_n 2, 1) := by decide +kernel
theorem dX11_set_52 : decode cX11_set 52 = .ok (.iload_n 3, 1) := by decide +kernel
theorem dX11_set_53 : decode cX11_set 53 = .ok (.invokevirtual 99, 3) := by decide +kernel
theorem dX11_set_56 : decode cX11_set 56 = .ok (.invokevirtual 88, 3) := by decide +kernel
theorem dX11_set_59 : decode cX11_set 59 = .ok (.ireturn, 1) := by decide +kernel
set_option maxRecDepth 20000 in
theorem ggX11_copy_X11_isRow : GoodIn wsX11_copy wsX11_isRow := goodIn_r _ [12] (by decide +kernel) (by decide +kernel)
set_option maxRecDepth 20000 in
theorem gX11_copy_X11_isRow : GoodIn wsX11_copy (va_wsS RX11 76 yX11_isRow wsX11_isRow) := goodIn_app (goodIn_of _ (by decide +kernel)) ggX11_copy_X11_isRow
set_option maxRecDepth 20000 in
theorem ggX11_copy_X5_isMissing : GoodIn wsX11_copy wsX5_isMissing := goodIn_r _ [17, 18, 41, 42, 43] (by decide +kernel) (by decide +kernel)
set_option maxRecDepth 20000 in
theorem gX11_copy_X5_isMissing : GoodIn wsX11_copy (wsV RX11 91 RX5 yX5_isMissing wsX5_isMissing) := goodIn_app (goodIn_of _ (by decide +kernel)) ggX11_copy_X5_isMissing
set_option maxRecDepth 20000 in
theorem ggX11_copy_X11_found : GoodIn wsX11_copy wsX11_found := goodIn_r _ [22, 23, 24, 33, 34, 35, 36, 37, 38, 39, 40] (by decide +kernel) (by decide +kernel)
set_option maxRecDepth 20000 in
theorem gX11_copy_X11_found : GoodIn wsX11_copy (wsV RX11 81 RX11 yX11_found wsX11_found) := goodIn_app (goodIn_of _ (by decide +kernel)) ggX11_copy_X11_found
set_option maxRecDepth 20000 in
theorem ggX11_copy_X5_hasItems : GoodIn wsX11_copy wsX5_hasItems := goodIn_r _ [28, 18, 41, 42, 43] (by decide +kernel) (by decide +kernel)
set_option maxRecDepth 20000 in
theorem gX11_copy_X5_hasItems : GoodIn wsX11_copy (wsV RX11 95 RX5 yX5_hasItems wsX5_hasItems) := goodIn_app (goodIn_of _ (by decide +kernel)) ggX11_copy_X5_hasItems
set_option maxRecDepth 20000 in
theorem ggX11_copy_X11_fine : GoodIn wsX11_copy wsX11_fine := goodIn_r _ [32, 23, 33, 34, 35, 36, 37, 38, 39, 40] (by decide +kernel) (by decide +kernel)
set_option maxRecDepth 20000 in
theorem gX11_copy_X11_fine : GoodIn wsX11_copy (wsV RX11 88 RX11 yX11_fine wsX11_fine) := goodIn_app (goodIn_of _ (by decide +kernel)) ggX11_copy_X11_fine
theorem dX11_copy_0 : decode cX11_copy 0 = .ok (.iload_n 1, 1) := by decide +kernel
theorem dX11_copy_1 : decode cX11_copy 1 = .ok (.invokestatic 76, 3) := by decide +kernel
theorem dX11_copy_4 : decode cX11_copy 4 = .ok (.ifCond .eq 10, 3) := by decide +kernel
theorem dX11_copy_7 : decode cX11_copy 7 = .ok (.iload_n 3, 1) := by decide +kernel
theorem dX11_copy_8 : decode cX11_copy 8 = .ok (.invokestatic 76, 3) := by decide +kernel
theorem dX11_copy_11 : decode cX11_copy 11 = .ok (.ifCond .ne 6, 3) := by decide +kernel
theorem dX11_copy_14 : decode cX11_copy 14 = .ok (.ldc 80, 2) := by decide +kernel
theorem dX11_copy_16 : decode cX11_copy 16 = .ok (.ireturn, 1) := by decide +kernel
theorem dX11_copy_17 : decode cX11_copy 17 = .ok (.aload_n 0, 1) := by decide +kernel
theorem dX11_copy_18 : decode cX11_copy 18 = .ok (.getfield 11, 3) := by decide +kernel
theorem dX11_copy_21 : decode cX11_copy 21 = .ok (.iload_n 1, 1) := by decide +kernel
theorem dX11_copy_22 : decode cX11_copy 22 = .ok (.aaload, 1) := by decide +kernel
theorem dX11_copy_23 : decode cX11_copy 23 = .ok (.astore 6, 2) := by decide +kernel
theorem dX11_copy_25 : decode cX11_copy 25 = .ok (.aload_n 0, 1) := by decide +kernel
theorem dX11_copy_26 : decode cX11_copy 26 = .ok (.getfield 11, 3) := by decide +kernel
theorem dX11_copy_29 : decode cX11_copy 29 = .ok (.iload_n 3, 1) := by decide +kernel
theorem dX11_copy_30 : decode cX11_copy 30 = .ok (.aaload, 1) := by decide +kernel
theorem dX11_copy_31 : decode cX11_copy 31 = .ok (.astore 7, 2) := by decide +kernel
theorem dX11_copy_33 : decode cX11_copy 33 = .ok (.aload 6, 2) := by decide +kernel
theorem dX11_copy_35 : decode cX11_copy 35 = .ok (.invokevirtual 91, 3) := by decide +kernel
theorem dX11_copy_38 : decode cX11_copy 38 = .ok (.ifCond .ne 11, 3) := by decide +kernel
theorem dX11_copy_41 : decode cX11_copy 41 = .ok (.aload 7, 2) := by decide +kernel
theorem dX11_copy_43 : decode cX11_copy 43 = .ok (.invokevirtual 91, 3) := by decide +kernel
theorem dX11_copy_46 : decode cX11_copy 46 = .ok (.ifCond .eq 9, 3) := by decide +kernel
theorem dX11_copy_49 : decode cX11_copy 49 = .ok (.aload_n 0, 1) := by decide +kernel
