theorem dX9_init_1 : decode cX9_init 1 = .ok (.invokespecial 3, 3) := by decide +kernel
theorem dX9_init_4 : decode cX9_init 4 = .ok (.aload_n 0, 1) := by decide +kernel
theorem dX9_init_5 : decode cX9_init 5 = .ok (.iconst 3, 1) := by decide +kernel
theorem dX9_init_6 : decode cX9_init 6 = .ok (.anewarray 9, 3) := by decide +kernel
theorem dX9_init_9 : decode cX9_init 9 = .ok (.putfield 11, 3) := by decide +kernel
theorem dX9_init_12 : decode cX9_init 12 = .ok (.aload_n 0, 1) := by decide +kernel
theorem dX9_init_13 : decode cX9_init 13 = .ok (.iconst 4, 1) := by decide +kernel
theorem dX9_init_14 : decode cX9_init 14 = .ok (.newarray .boolean, 2) := by decide +kernel
theorem dX9_init_16 : decode cX9_init 16 = .ok (.putfield 17, 3) := by decide +kernel
theorem dX9_init_19 : decode cX9_init 19 = .ok (.aload_n 0, 1) := by decide +kernel
theorem dX9_init_20 : decode cX9_init 20 = .ok (.iconst 4, 1) := by decide +kernel
theorem dX9_init_21 : decode cX9_init 21 = .ok (.bipush 9, 2) := by decide +kernel
theorem dX9_init_23 : decode cX9_init 23 = .ok (.multianewarray 21 2, 4) := by decide +kernel
theorem dX9_init_27 : decode cX9_init 27 = .ok (.putfield 23, 3) := by decide +kernel
theorem dX9_init_30 : decode cX9_init 30 = .ok (.aload_n 0, 1) := by decide +kernel
theorem dX9_init_31 : decode cX9_init 31 = .ok (.iconst 4, 1) := by decide +kernel
theorem dX9_init_32 : decode cX9_init 32 = .ok (.bipush 9, 2) := by decide +kernel
theorem dX9_init_34 : decode cX9_init 34 = .ok (.multianewarray 21 2, 4) := by decide +kernel
theorem dX9_init_38 : decode cX9_init 38 = .ok (.putfield 26, 3) := by decide +kernel
theorem dX9_init_41 : decode cX9_init 41 = .ok (.aload_n 0, 1) := by decide +kernel
theorem dX9_init_42 : decode cX9_init 42 = .ok (.iconst 4, 1) := by decide +kernel
theorem dX9_init_43 : decode cX9_init 43 = .ok (.iconst 3, 1) := by decide +kernel
theorem dX9_init_44 : decode cX9_init 44 = .ok (.multianewarray 21 2, 4) := by decide +kernel
theorem dX9_init_48 : decode cX9_init 48 = .ok (.putfield 29, 3) := by decide +kernel
theorem dX9_init_51 : decode cX9_init 51 = .ok (.aload_n 0, 1) := by decide +kernel
theorem dX9_init_52 : decode cX9_init 52 = .ok (.bipush 10, 2) := by decide +kernel
theorem dX9_init_54 : decode cX9_init 54 = .ok (.newarray .int, 2) := by decide +kernel
theorem dX9_init_56 : decode cX9_init 56 = .ok (.putfield 32, 3) := by decide +kernel
theorem dX9_init_59 : decode cX9_init 59 = .ok (.aload_n 0, 1) := by decide +kernel
theorem dX9_init_60 : decode cX9_init 60 = .ok (.bipush 9, 2) := by decide +kernel
theorem dX9_init_62 : decode cX9_init 62 = .ok (.newarray .int, 2) := by decide +kernel
theorem dX9_init_64 : decode cX9_init 64 = .ok (.putfield 36, 3) := by decide +kernel
theorem dX9_init_67 : decode cX9_init 67 = .ok (.aload_n 0, 1) := by decide +kernel
theorem dX9_init_68 : decode cX9_init 68 = .ok (.bipush 10, 2) := by decide +kernel
theorem dX9_init_70 : decode cX9_init 70 = .ok (.newarray .int, 2) := by decide +kernel
theorem dX9_init_72 : decode cX9_init 72 = .ok (.putfield 39, 3) := by decide +kernel
theorem dX9_init_75 : decode cX9_init 75 = .ok (.aload_n 0, 1) := by decide +kernel
theorem dX9_init_76 : decode cX9_init 76 = .ok (.bipush 10, 2) := by decide +kernel
theorem dX9_init_78 : decode cX9_init 78 = .ok (.newarray .int, 2) := by decide +kernel
theorem dX9_init_80 : decode cX9_init 80 = .ok (.putfield 42, 3) := by decide +kernel
theorem dX9_init_83 : decode cX9_init 83 = .ok (.aload_n 0, 1) := by decide +kernel
theorem dX9_init_84 : decode cX9_init 84 = .ok (.bipush 10, 2) := by decide +kernel
theorem dX9_init_86 : decode cX9_init 86 = .ok (.iconst 4, 1) := by decide +kernel
theorem dX9_init_87 : decode cX9_init 87 = .ok (.multianewarray 21 2, 4) := by decide +kernel
theorem dX9_init_91 : decode cX9_init 91 = .ok (.putfield 45, 3) := by decide +kernel
theorem dX9_init_94 : decode cX9_init 94 = .ok (.aload_n 0, 1) := by decide +kernel
theorem dX9_init_95 : decode cX9_init 95 = .ok (.bipush 10, 2) := by decide +kernel
theorem dX9_init_97 : decode cX9_init 97 = .ok (.newarray .int, 2) := by decide +kernel
theorem dX9_init_99 : decode cX9_init 99 = .ok (.putfield 48, 3) := by decide +kernel
theorem dX9_init_102 : decode cX9_init 102 = .ok (.aload_n 0, 1) := by decide +kernel
theorem dX9_init_103 : decode cX9_init 103 = .ok (.bipush 10, 2) := by decide +kernel
theorem dX9_init_105 : decode cX9_init 105 = .ok (.iconst 3, 1) := by decide +kernel
theorem dX9_init_106 : decode cX9_init 106 = .ok (.multianewarray 21 2, 4) := by decide +kernel
theorem dX9_init_110 : decode cX9_init 110 = .ok (.putfield 51, 3) := by decide +kernel
theorem dX9_init_113 : decode cX9_init 113 = .ok (.aload_n 0, 1) := by decide +kernel
theorem dX9_init_114 : decode cX9_init 114 = .ok (.new 54, 3) := by decide +kernel
theorem dX9_init_117 : decode cX9_init 117 = .ok (.dup, 1) := by decide +kernel
theorem dX9_init_118 : decode cX9_init 118 = .ok (.invokespecial 56, 3) := by decide +kernel
theorem dX9_init_121 : decode cX9_init 121 = .ok (.putfield 57, 3) := by decide +kernel
theorem dX9_init_124 : decode cX9_init 124 = .ok (.aload_n 0, 1) := by decide +kernel
theorem dX9_init_125 : decode cX9_init 125 = .ok (.bipush 9, 2) := by decide +kernel
theorem dX9_init_127 : decode cX9_init 127 = .ok (.newarray .int, 2) := by decide +kernel
theorem dX9_init_129 : decode cX9_init 129 = .ok (.putfield 61, 3) := by decide +kernel
theorem dX9_init_132 : decode cX9_init 132 = .ok (.return_, 1) := by decide +kernel
set_option maxRecDepth 20000 in
theorem ggX9_search_X10_shoeOrNull : GoodIn wsX9_search wsX10_shoeOrNull := goodIn_r _ [12, 13, 14, 15, 16, 11, 17, 18, 19, 20, 21, 159, 160, 161, 162, 163, 164, 165, 166, 167] (by decide +kernel) (by decide +kernel)
set_option maxRecDepth 20000 in
theorem gX9_search_X10_shoeOrNull : GoodIn wsX9_search (wsV RX9 64 RX10 yX10_shoeOrNull wsX10_shoeOrNull) := goodIn_app (goodIn_of _ (by decide +kernel)) ggX9_search_X10_shoeOrNull
set_option maxRecDepth 20000 in
theorem ggX9_search_X0_forget : GoodIn wsX9_search wsX0_forget := goodIn_r _ [26, 27, 168, 169, 170, 171] (by decide +kernel) (by decide +kernel)
set_option maxRecDepth 20000 in
theorem gX9_search_X0_forget : GoodIn wsX9_search (wsV RX9 78 RX0 yX0_forget wsX0_forget) := goodIn_app (goodIn_of _ (by decide +kernel)) ggX9_search_X0_forget
set_option maxRecDepth 20000 in
theorem ggX9_search_X9_prepareGoings : GoodIn wsX9_search wsX9_prepareGoings := goodIn_r _ [32, 1, 33, 34, 35, 36, 37, 38, 39, 40, 41, 42, 43, 44, 31, 45, 2, 46, 47, 48, 11, 49, 50, 51, 52, 53, 54, 55, 56, 57, 58, 59, 60, 61, 62, 63, 64, 65, 66, 67, 68, 69, 70, 71, 72, 73, 74, 75, 76, 77, 78, 79, 80, 81, 82, 83, 84, 140, 141, 142, 143, 144, 145, 146, 147, 148, 149, 150, 151, 152, 153, 154, 155, 156, 157, 158, 172, 173, 174, 175, 176, 159, 160, 161, 162, 163, 164, 165, 166, 167, 177, 178, 179, 180, 181] (by decide +kernel) (by decide +kernel)
set_option maxRecDepth 20000 in
theorem gX9_search_X9_prepareGoings : GoodIn wsX9_search (wsV RX9 81 RX9 yX9_prepareGoings wsX9_prepareGoings) := goodIn_app (goodIn_of _ (by decide +kernel)) ggX9_search_X9_prepareGoings
set_option maxRecDepth 20000 in
theorem ggX9_search_X9_prepareLeast : GoodIn wsX9_search wsX9_prepareLeast := goodIn_r _ [88, 89, 3, 33, 34, 90, 91, 92, 93, 140, 141, 142, 143, 144, 145, 146, 147, 148, 149, 150, 151, 152, 153, 154, 155, 156, 157, 158] (by decide +kernel) (by decide +kernel)
set_option maxRecDepth 20000 in
theorem gX9_search_X9_prepareLeast : GoodIn wsX9_search (wsV RX9 85 RX9 yX9_prepareLeast wsX9_prepareLeast) := goodIn_app (goodIn_of _ (by decide +kernel)) ggX9_search_X9_prepareLeast
set_option maxRecDepth 20000 in
theorem ggX9_search_X9_tryRows : GoodIn wsX9_search wsX9_tryRows := goodIn_r _ [97, 98, 99, 100, 101, 102, 31, 103, 33, 104, 2, 105, 106, 107, 108, 109, 40, 36, 110, 111, 112, 113, 114, 34, 89, 3, 115, 35, 5, 6, 7, 116, 117, 118, 119, 90, 91, 92, 93, 120, 121, 122, 123, 124, 125, 126, 127, 128, 129, 130, 131, 132, 4, 133, 134, 135, 25, 136, 137, 27, 138, 139, 19, 20, 21, 140, 141, 142, 143, 144, 145, 146, 147, 148, 149, 150, 151, 152, 153, 154, 155, 156, 157, 158, 168, 169, 170, 171] (by decide +kernel) (by decide +kernel)
set_option maxRecDepth 20000 in
theorem gX9_search_X9_tryRows : GoodIn wsX9_search (wsV RX9 97 RX9 yX9_tryRows wsX9_tryRows) := goodIn_app (goodIn_of _ (by decide +kernel)) ggX9_search_X9_tryRows
theorem dX9_search_0 : decode cX9_search 0 = .ok (.aload_n 0, 1) := by decide +kernel
theorem dX9_search_1 : decode cX9_search 1 = .ok (.getfield 11, 3) := by decide +kernel
theorem dX9_search_4 : decode cX9_search 4 = .ok (.iconst 0, 1) := by decide +kernel
theorem dX9_search_5 : decode cX9_search 5 = .ok (.aload_n 1, 1) := by decide +kernel
theorem dX9_search_6 : decode cX9_search 6 = .ok (.iload_n 3, 1) := by decide +kernel
theorem dX9_search_7 : decode cX9_search 7 = .ok (.invokevirtual 64, 3) := by decide +kernel
theorem dX9_search_10 : decode cX9_search 10 = .ok (.aastore, 1) := by decide +kernel
theorem dX9_search_11 : decode cX9_search 11 = .ok (.aload_n 0, 1) := by decide +kernel
theorem dX9_search_12 : decode cX9_search 12 = .ok (.getfield 11, 3) := by decide +kernel
theorem dX9_search_15 : decode cX9_search 15 = .ok (.iconst 1, 1) := by decide +kernel
theorem dX9_search_16 : decode cX9_search 16 = .ok (.aload_n 1, 1) := by decide +kernel
theorem dX9_search_17 : decode cX9_search 17 = .ok (.iload 4, 2) := by decide +kernel
theorem dX9_search_19 : decode cX9_search 19 = .ok (.invokevirtual 64, 3) := by decide +kernel
theorem dX9_search_22 : decode cX9_search 22 = .ok (.aastore, 1) := by decide +kernel
theorem dX9_search_23 : decode cX9_search 23 = .ok (.aload_n 0, 1) := by decide +kernel
theorem dX9_search_24 : decode cX9_search 24 = .ok (.getfield 11, 3) := by decide +kernel
theorem dX9_search_27 : decode cX9_search 27 = .ok (.iconst 2, 1) := by decide +kernel
theorem dX9_search_28 : decode cX9_search 28 = .ok (.aload_n 1, 1) := by decide +kernel
theorem dX9_search_29 : decode cX9_search 29 = .ok (.iload 5, 2) := by decide +kernel
theorem dX9_search_31 : decode cX9_search 31 = .ok (.invokevirtual 64, 3) := by decide +kernel
theorem dX9_search_34 : decode cX9_search 34 = .ok (.aastore, 1) := by decide +kernel
theorem dX9_search_35 : decode cX9_search 35 = .ok (.aload_n 0, 1) := by decide +kernel
theorem dX9_search_36 : decode cX9_search 36 = .ok (.iload_n 2, 1) := by decide +kernel
theorem dX9_search_37 : decode cX9_search 37 = .ok (.putfield 70, 3) := by decide +kernel
theorem dX9_search_40 : decode cX9_search 40 = .ok (.aload_n 0, 1) := by decide +kernel
theorem dX9_search_41 : decode cX9_search 41 = .ok (.iload 6, 2) := by decide +kernel
theorem dX9_search_43 : decode cX9_search 43 = .ok (.putfield 74, 3) := by decide +kernel
theorem dX9_search_46 : decode cX9_search 46 = .ok (.aload_n 0, 1) := by decide +kernel
theorem dX9_search_47 : decode cX9_search 47 = .ok (.getfield 57, 3) := by decide +kernel
theorem dX9_search_50 : decode cX9_search 50 = .ok (.invokevirtual 78, 3) := by decide +kernel
theorem dX9_search_53 : decode cX9_search 53 = .ok (.aload_n 0, 1) := by decide +kernel
theorem dX9_search_54 : decode cX9_search 54 = .ok (.aload_n 1, 1) := by decide +kernel
theorem dX9_search_55 : decode cX9_search 55 = .ok (.invokevirtual 81, 3) := by decide +kernel
theorem dX9_search_58 : decode cX9_search 58 = .ok (.aload_n 0, 1) := by decide +kernel
theorem dX9_search_59 : decode cX9_search 59 = .ok (.invokevirtual 85, 3) := by decide +kernel
theorem dX9_search_62 : decode cX9_search 62 = .ok (.aload_n 0, 1) := by decide +kernel
theorem dX9_search_63 : decode cX9_search 63 = .ok (.iconst 0, 1) := by decide +kernel
theorem dX9_search_64 : decode cX9_search 64 = .ok (.putfield 88, 3) := by decide +kernel
theorem dX9_search_67 : decode cX9_search 67 = .ok (.aload_n 0, 1) := by decide +kernel
theorem dX9_search_68 : decode cX9_search 68 = .ok (.iconst 0, 1) := by decide +kernel
theorem dX9_search_69 : decode cX9_search 69 = .ok (.putfield 91, 3) := by decide +kernel
theorem dX9_search_72 : decode cX9_search 72 = .ok (.aload_n 0, 1) := by decide +kernel
theorem dX9_search_73 : decode cX9_search 73 = .ok (.iconst 0, 1) := by decide +kernel
theorem dX9_search_74 : decode cX9_search 74 = .ok (.putfield 94, 3) := by decide +kernel
theorem dX9_search_77 : decode cX9_search 77 = .ok (.aload_n 0, 1) := by decide +kernel
theorem dX9_search_78 : decode cX9_search 78 = .ok (.invokevirtual 97, 3) := by decide +kernel
theorem dX9_search_81 : decode cX9_search 81 = .ok (.aload_n 0, 1) := by decide +kernel
theorem dX9_search_82 : decode cX9_search 82 = .ok (.getfield 88, 3) := by decide +kernel
theorem dX9_search_85 : decode cX9_search 85 = .ok (.ireturn, 1) := by decide +kernel
set_option maxRecDepth 20000 in
theorem ggX9_prepareGoings_X9_isOpenWith : GoodIn wsX9_prepareGoings wsX9_isOpenWith := goodIn_r _ [15, 16, 57, 58, 59, 60, 61, 62, 63, 64, 65, 66, 67, 68, 69, 70, 71, 72, 73, 74, 75] (by decide +kernel) (by decide +kernel)
set_option maxRecDepth 20000 in
theorem gX9_prepareGoings_X9_isOpenWith : GoodIn wsX9_prepareGoings (wsV RX9 100 RX9 yX9_isOpenWith wsX9_isOpenWith) := goodIn_app (goodIn_of _ (by decide +kernel)) ggX9_prepareGoings_X9_isOpenWith
set_option maxRecDepth 20000 in
theorem ggX9_prepareGoings_X10_minutesOf : GoodIn wsX9_prepareGoings wsX10_minutesOf := goodIn_r _ [21, 22, 23, 24, 25, 26, 27, 28, 29, 30, 31, 81, 82, 83, 84, 85, 86, 87, 88, 89, 90, 91, 76, 77, 78, 79, 80] (by decide +kernel) (by decide +kernel)
set_option maxRecDepth 20000 in
theorem gX9_prepareGoings_X10_minutesOf : GoodIn wsX9_prepareGoings (wsV RX9 104 RX10 yX10_minutesOf wsX10_minutesOf) := goodIn_app (goodIn_of _ (by decide +kernel)) ggX9_prepareGoings_X10_minutesOf
set_option maxRecDepth 20000 in
theorem ggX9_prepareGoings_X10_costOf : GoodIn wsX9_prepareGoings wsX10_costOf := goodIn_r _ [35, 36, 22, 37, 38, 39, 40, 41, 42, 43, 44, 45, 46, 47, 48, 81, 82, 83, 84, 85, 86, 87, 88, 89, 90, 91, 76, 77, 78, 79, 80, 92, 93, 94] (by decide +kernel) (by decide +kernel)
set_option maxRecDepth 20000 in
theorem gX9_prepareGoings_X10_costOf : GoodIn wsX9_prepareGoings (wsV RX9 107 RX10 yX10_costOf wsX10_costOf) := goodIn_app (goodIn_of _ (by decide +kernel)) ggX9_prepareGoings_X10_costOf
set_option maxRecDepth 20000 in
theorem ggX9_prepareGoings_X9_wear : GoodIn wsX9_prepareGoings wsX9_wear := goodIn_r _ [52, 1, 53, 54, 55, 29, 56, 31, 57, 58, 59, 60, 61, 62, 63, 64, 65, 66, 67, 68, 69, 70, 71, 72, 73, 74, 75, 76, 77, 78, 79, 80] (by decide +kernel) (by decide +kernel)
set_option maxRecDepth 20000 in
theorem gX9_prepareGoings_X9_wear : GoodIn wsX9_prepareGoings (wsV RX9 113 RX9 yX9_wear wsX9_wear) := goodIn_app (goodIn_of _ (by decide +kernel)) ggX9_prepareGoings_X9_wear
theorem dX9_prepareGoings_0 : decode cX9_prepareGoings 0 = .ok (.iconst 0, 1) := by decide +kernel
theorem dX9_prepareGoings_1 : decode cX9_prepareGoings 1 = .ok (.istore_n 2, 1) := by decide +kernel
theorem dX9_prepareGoings_2 : decode cX9_prepareGoings 2 = .ok (.iload_n 2, 1) := by decide +kernel
theorem dX9_prepareGoings_3 : decode cX9_prepareGoings 3 = .ok (.iconst 4, 1) := by decide +kernel
theorem dX9_prepareGoings_4 : decode cX9_prepareGoings 4 = .ok (.if_icmp .ge 192, 3) := by decide +kernel
theorem dX9_prepareGoings_7 : decode cX9_prepareGoings 7 = .ok (.iload_n 2, 1) := by decide +kernel
theorem dX9_prepareGoings_8 : decode cX9_prepareGoings 8 = .ok (.ifCond .ne 12, 3) := by decide +kernel
theorem dX9_prepareGoings_11 : decode cX9_prepareGoings 11 = .ok (.aload_n 0, 1) := by decide +kernel
theorem dX9_prepareGoings_12 : decode cX9_prepareGoings 12 = .ok (.getfield 11, 3) := by decide +kernel
theorem dX9_prepareGoings_15 : decode cX9_prepareGoings 15 = .ok (.iconst 0, 1) := by decide +kernel
theorem dX9_prepareGoings_16 : decode cX9_prepareGoings 16 = .ok (.aaload, 1) := by decide +kernel
theorem dX9_prepareGoings_17 : decode cX9_prepareGoings 17 = .ok (.goto 18, 3) := by decide +kernel
theorem dX9_prepareGoings_20 : decode cX9_prepareGoings 20 = .ok (.iload_n 2, 1) := by decide +kernel
theorem dX9_prepareGoings_21 : decode cX9_prepareGoings 21 = .ok (.iconst 3, 1) := by decide +kernel
theorem dX9_prepareGoings_22 : decode cX9_prepareGoings 22 = .ok (.if_icmp .ne 7, 3) := by decide +kernel
theorem dX9_prepareGoings_25 : decode cX9_prepareGoings 25 = .ok (.aconst_null, 1) := by decide +kernel
theorem dX9_prepareGoings_26 : decode cX9_prepareGoings 26 = .ok (.goto 9, 3) := by decide +kernel
theorem dX9_prepareGoings_29 : decode cX9_prepareGoings 29 = .ok (.aload_n 0, 1) := by decide +kernel
theorem dX9_prepareGoings_30 : decode cX9_prepareGoings 30 = .ok (.getfield 11, 3) := by decide +kernel
theorem dX9_prepareGoings_33 : decode cX9_prepareGoings 33 = .ok (.iconst 1, 1) := by decide +kernel
theorem dX9_prepareGoings_34 : decode cX9_prepareGoings 34 = .ok (.aaload, 1) := by decide +kernel
theorem dX9_prepareGoings_35 : decode cX9_prepareGoings 35 = .ok (.astore_n 3, 1) := by decide +kernel
theorem dX9_prepareGoings_36 : decode cX9_prepareGoings 36 = .ok (.iload_n 2, 1) := by decide +kernel
theorem dX9_prepareGoings_37 : decode cX9_prepareGoings 37 = .ok (.ifCond .ne 12, 3) := by decide +kernel
theorem dX9_prepareGoings_40 : decode cX9_prepareGoings 40 = .ok (.aload_n 0, 1) := by decide +kernel
theorem dX9_prepareGoings_41 : decode cX9_prepareGoings 41 = .ok (.getfield 11, 3) := by decide +kernel
theorem dX9_prepareGoings_44 : decode cX9_prepareGoings 44 = .ok (.iconst 1, 1) := by decide +kernel
theorem dX9_prepareGoings_45 : decode cX9_prepareGoings 45 = .ok (.aaload, 1) := by decide +kernel
theorem dX9_prepareGoings_46 : decode cX9_prepareGoings 46 = .ok (.goto 18, 3) := by decide +kernel
theorem dX9_prepareGoings_49 : decode cX9_prepareGoings 49 = .ok (.iload_n 2, 1) := by decide +kernel
theorem dX9_prepareGoings_50 : decode cX9_prepareGoings 50 = .ok (.iconst 1, 1) := by decide +kernel
theorem dX9_prepareGoings_51 : decode cX9_prepareGoings 51 = .ok (.if_icmp .ne 12, 3) := by decide +kernel
theorem dX9_prepareGoings_54 : decode cX9_prepareGoings 54 = .ok (.aload_n 0, 1) := by decide +kernel
theorem dX9_prepareGoings_55 : decode cX9_prepareGoings 55 = .ok (.getfield 11, 3) := by decide +kernel
theorem dX9_prepareGoings_58 : decode cX9_prepareGoings 58 = .ok (.iconst 2, 1) := by decide +kernel
theorem dX9_prepareGoings_59 : decode cX9_prepareGoings 59 = .ok (.aaload, 1) := by decide +kernel
theorem dX9_prepareGoings_60 : decode cX9_prepareGoings 60 = .ok (.goto 4, 3) := by decide +kernel
theorem dX9_prepareGoings_63 : decode cX9_prepareGoings 63 = .ok (.aconst_null, 1) := by decide +kernel
theorem dX9_prepareGoings_64 : decode cX9_prepareGoings 64 = .ok (.astore 4, 2) := by decide +kernel
theorem dX9_prepareGoings_66 : decode cX9_prepareGoings 66 = .ok (.aload_n 0, 1) := by decide +kernel
theorem dX9_prepareGoings_67 : decode cX9_prepareGoings 67 = .ok (.getfield 17, 3) := by decide +kernel
theorem dX9_prepareGoings_70 : decode cX9_prepareGoings 70 = .ok (.iload_n 2, 1) := by decide +kernel
theorem dX9_prepareGoings_71 : decode cX9_prepareGoings 71 = .ok (.aload_n 0, 1) := by decide +kernel
theorem dX9_prepareGoings_72 : decode cX9_prepareGoings 72 = .ok (.iload_n 2, 1) := by decide +kernel
theorem dX9_prepareGoings_73 : decode cX9_prepareGoings 73 = .ok (.aload_n 3, 1) := by decide +kernel
theorem dX9_prepareGoings_74 : decode cX9_prepareGoings 74 = .ok (.aload 4, 2) := by decide +kernel
theorem dX9_prepareGoings_76 : decode cX9_prepareGoings 76 = .ok (.invokevirtual 100, 3) := by decide +kernel
theorem dX9_prepareGoings_79 : decode cX9_prepareGoings 79 = .ok (.bastore, 1) := by decide +kernel
theorem dX9_prepareGoings_80 : decode cX9_prepareGoings 80 = .ok (.iconst 0, 1) := by decide +kernel
theorem dX9_prepareGoings_81 : decode cX9_prepareGoings 81 = .ok (.istore 5, 2) := by decide +kernel
theorem dX9_prepareGoings_83 : decode cX9_prepareGoings 83 = .ok (.iload 5, 2) := by decide +kernel
theorem dX9_prepareGoings_85 : decode cX9_prepareGoings 85 = .ok (.bipush 9, 2) := by decide +kernel
theorem dX9_prepareGoings_87 : decode cX9_prepareGoings 87 = .ok (.if_icmp .ge 46, 3) := by decide +kernel
theorem dX9_prepareGoings_90 : decode cX9_prepareGoings 90 = .ok (.aload_n 0, 1) := by decide +kernel
theorem dX9_prepareGoings_91 : decode cX9_prepareGoings 91 = .ok (.getfield 23, 3) := by decide +kernel
theorem dX9_prepareGoings_94 : decode cX9_prepareGoings 94 = .ok (.iload_n 2, 1) := by decide +kernel
theorem dX9_prepareGoings_95 : decode cX9_prepareGoings 95 = .ok (.aaload, 1) := by decide +kernel
theorem dX9_prepareGoings_96 : decode cX9_prepareGoings 96 = .ok (.iload 5, 2) := by decide +kernel
theorem dX9_prepareGoings_98 : decode cX9_prepareGoings 98 = .ok (.aload_n 1, 1) := by decide +kernel
theorem dX9_prepareGoings_99 : decode cX9_prepareGoings 99 = .ok (.iload_n 2, 1) := by decide +kernel
theorem dX9_prepareGoings_100 : decode cX9_prepareGoings 100 = .ok (.iload 5, 2) := by decide +kernel
theorem dX9_prepareGoings_102 : decode cX9_prepareGoings 102 = .ok (.aload_n 3, 1) := by decide +kernel
theorem dX9_prepareGoings_103 : decode cX9_prepareGoings 103 = .ok (.aload 4, 2) := by decide +kernel
theorem dX9_prepareGoings_105 : decode cX9_prepareGoings 105 = .ok (.invokevirtual 104, 3) := by decide +kernel
theorem dX9_prepareGoings_108 : decode cX9_prepareGoings 108 = .ok (.iastore, 1) := by decide +kernel
theorem dX9_prepareGoings_109 : decode cX9_prepareGoings 109 = .ok (.aload_n 0, 1) := by decide +kernel
theorem dX9_prepareGoings_110 : decode cX9_prepareGoings 110 = .ok (.getfield 26, 3) := by decide +kernel
theorem dX9_prepareGoings_113 : decode cX9_prepareGoings 113 = .ok (.iload_n 2, 1) := by decide +kernel
theorem dX9_prepareGoings_114 : decode cX9_prepareGoings 114 = .ok (.aaload, 1) := by decide +kernel
theorem dX9_prepareGoings_115 : decode cX9_prepareGoings 115 = .ok (.iload 5, 2) := by decide +kernel
theorem dX9_prepareGoings_117 : decode cX9_prepareGoings 117 = .ok (.aload_n 1, 1) := by decide +kernel
theorem dX9_prepareGoings_118 : decode cX9_prepareGoings 118 = .ok (.iload 5, 2) := by decide +kernel
theorem dX9_prepareGoings_120 : decode cX9_prepareGoings 120 = .ok (.aload_n 3, 1) := by decide +kernel
theorem dX9_prepareGoings_121 : decode cX9_prepareGoings 121 = .ok (.aload 4, 2) := by decide +kernel
theorem dX9_prepareGoings_123 : decode cX9_prepareGoings 123 = .ok (.invokevirtual 107, 3) := by decide +kernel
theorem dX9_prepareGoings_126 : decode cX9_prepareGoings 126 = .ok (.iastore, 1) := by decide +kernel
theorem dX9_prepareGoings_127 : decode cX9_prepareGoings 127 = .ok (.iinc 5 1, 3) := by decide +kernel
theorem dX9_prepareGoings_130 : decode cX9_prepareGoings 130 = .ok (.goto (-47), 3) := by decide +kernel
theorem dX9_prepareGoings_133 : decode cX9_prepareGoings 133 = .ok (.aload_n 0, 1) := by decide +kernel
theorem dX9_prepareGoings_134 : decode cX9_prepareGoings 134 = .ok (.getfield 29, 3) := by decide +kernel
theorem dX9_prepareGoings_137 : decode cX9_prepareGoings 137 = .ok (.iload_n 2, 1) := by decide +kernel
theorem dX9_prepareGoings_138 : decode cX9_prepareGoings 138 = .ok (.aaload, 1) := by decide +kernel
theorem dX9_prepareGoings_139 : decode cX9_prepareGoings 139 = .ok (.iconst 0, 1) := by decide +kernel
theorem dX9_prepareGoings_140 : decode cX9_prepareGoings 140 = .ok (.getstatic 110, 3) := by decide +kernel
theorem dX9_prepareGoings_143 : decode cX9_prepareGoings 143 = .ok (.iload_n 2, 1) := by decide +kernel
theorem dX9_prepareGoings_144 : decode cX9_prepareGoings 144 = .ok (.iaload, 1) := by decide +kernel
theorem dX9_prepareGoings_145 : decode cX9_prepareGoings 145 = .ok (.aload_n 0, 1) := by decide +kernel
theorem dX9_prepareGoings_146 : decode cX9_prepareGoings 146 = .ok (.iconst 0, 1) := by decide +kernel
theorem dX9_prepareGoings_147 : decode cX9_prepareGoings 147 = .ok (.invokevirtual 113, 3) := by decide +kernel
theorem dX9_prepareGoings_150 : decode cX9_prepareGoings 150 = .ok (.imul, 1) := by decide +kernel
theorem dX9_prepareGoings_151 : decode cX9_prepareGoings 151 = .ok (.iastore, 1) := by decide +kernel
theorem dX9_prepareGoings_152 : decode cX9_prepareGoings 152 = .ok (.aload_n 0, 1) := by decide +kernel
theorem dX9_prepareGoings_153 : decode cX9_prepareGoings 153 = .ok (.getfield 29, 3) := by decide +kernel
theorem dX9_prepareGoings_156 : decode cX9_prepareGoings 156 = .ok (.iload_n 2, 1) := by decide +kernel
theorem dX9_prepareGoings_157 : decode cX9_prepareGoings 157 = .ok (.aaload, 1) := by decide +kernel
theorem dX9_prepareGoings_158 : decode cX9_prepareGoings 158 = .ok (.iconst 1, 1) := by decide +kernel
theorem dX9_prepareGoings_159 : decode cX9_prepareGoings 159 = .ok (.getstatic 117, 3) := by decide +kernel
theorem dX9_prepareGoings_162 : decode cX9_prepareGoings 162 = .ok (.iload_n 2, 1) := by decide +kernel
theorem dX9_prepareGoings_163 : decode cX9_prepareGoings 163 = .ok (.iaload, 1) := by decide +kernel
theorem dX9_prepareGoings_164 : decode cX9_prepareGoings 164 = .ok (.aload_n 0, 1) := by decide +kernel
theorem dX9_prepareGoings_165 : decode cX9_prepareGoings 165 = .ok (.iconst 1, 1) := by decide +kernel
theorem dX9_prepareGoings_166 : decode cX9_prepareGoings 166 = .ok (.invokevirtual 113, 3) := by decide +kernel
theorem dX9_prepareGoings_169 : decode cX9_prepareGoings 169 = .ok (.imul, 1) := by decide +kernel
theorem dX9_prepareGoings_170 : decode cX9_prepareGoings 170 = .ok (.iastore, 1) := by decide +kernel
theorem dX9_prepareGoings_171 : decode cX9_prepareGoings 171 = .ok (.aload_n 0, 1) := by decide +kernel
theorem dX9_prepareGoings_172 : decode cX9_prepareGoings 172 = .ok (.getfield 29, 3) := by decide +kernel
theorem dX9_prepareGoings_175 : decode cX9_prepareGoings 175 = .ok (.iload_n 2, 1) := by decide +kernel
theorem dX9_prepareGoings_176 : decode cX9_prepareGoings 176 = .ok (.aaload, 1) := by decide +kernel
theorem dX9_prepareGoings_177 : decode cX9_prepareGoings 177 = .ok (.iconst 2, 1) := by decide +kernel
theorem dX9_prepareGoings_178 : decode cX9_prepareGoings 178 = .ok (.getstatic 120, 3) := by decide +kernel
theorem dX9_prepareGoings_181 : decode cX9_prepareGoings 181 = .ok (.iload_n 2, 1) := by decide +kernel
theorem dX9_prepareGoings_182 : decode cX9_prepareGoings 182 = .ok (.iaload, 1) := by decide +kernel
theorem dX9_prepareGoings_183 : decode cX9_prepareGoings 183 = .ok (.aload_n 0, 1) := by decide +kernel
theorem dX9_prepareGoings_184 : decode cX9_prepareGoings 184 = .ok (.iconst 2, 1) := by decide +kernel
theorem dX9_prepareGoings_185 : decode cX9_prepareGoings 185 = .ok (.invokevirtual 113, 3) := by decide +kernel
theorem dX9_prepareGoings_188 : decode cX9_prepareGoings 188 = .ok (.imul, 1) := by decide +kernel
theorem dX9_prepareGoings_189 : decode cX9_prepareGoings 189 = .ok (.iastore, 1) := by decide +kernel
theorem dX9_prepareGoings_190 : decode cX9_prepareGoings 190 = .ok (.iinc 2 1, 3) := by decide +kernel
theorem dX9_prepareGoings_193 : decode cX9_prepareGoings 193 = .ok (.goto (-191), 3) := by decide +kernel
theorem dX9_prepareGoings_196 : decode cX9_prepareGoings 196 = .ok (.iconst 0, 1) := by decide +kernel
theorem dX9_prepareGoings_197 : decode cX9_prepareGoings 197 = .ok (.istore_n 2, 1) := by decide +kernel
theorem dX9_prepareGoings_198 : decode cX9_prepareGoings 198 = .ok (.iload_n 2, 1) := by decide +kernel
theorem dX9_prepareGoings_199 : decode cX9_prepareGoings 199 = .ok (.iconst 3, 1) := by decide +kernel
theorem dX9_prepareGoings_200 : decode cX9_prepareGoings 200 = .ok (.if_icmp .ge 39, 3) := by decide +kernel
theorem dX9_prepareGoings_203 : decode cX9_prepareGoings 203 = .ok (.aload_n 0, 1) := by decide +kernel
theorem dX9_prepareGoings_204 : decode cX9_prepareGoings 204 = .ok (.getfield 51, 3) := by decide +kernel
theorem dX9_prepareGoings_207 : decode cX9_prepareGoings 207 = .ok (.iconst 0, 1) := by decide +kernel
theorem dX9_prepareGoings_208 : decode cX9_prepareGoings 208 = .ok (.aaload, 1) := by decide +kernel
theorem dX9_prepareGoings_209 : decode cX9_prepareGoings 209 = .ok (.iload_n 2, 1) := by decide +kernel
theorem dX9_prepareGoings_210 : decode cX9_prepareGoings 210 = .ok (.aload_n 0, 1) := by decide +kernel
theorem dX9_prepareGoings_211 : decode cX9_prepareGoings 211 = .ok (.getfield 11, 3) := by decide +kernel
theorem dX9_prepareGoings_214 : decode cX9_prepareGoings 214 = .ok (.iload_n 2, 1) := by decide +kernel
theorem dX9_prepareGoings_215 : decode cX9_prepareGoings 215 = .ok (.aaload, 1) := by decide +kernel
theorem dX9_prepareGoings_216 : decode cX9_prepareGoings 216 = .ok (.ifnonnull 7, 3) := by decide +kernel
theorem dX9_prepareGoings_219 : decode cX9_prepareGoings 219 = .ok (.iconst 0, 1) := by decide +kernel
theorem dX9_prepareGoings_220 : decode cX9_prepareGoings 220 = .ok (.goto 12, 3) := by decide +kernel
theorem dX9_prepareGoings_223 : decode cX9_prepareGoings 223 = .ok (.aload_n 0, 1) := by decide +kernel
theorem dX9_prepareGoings_224 : decode cX9_prepareGoings 224 = .ok (.getfield 11, 3) := by decide +kernel
theorem dX9_prepareGoings_227 : decode cX9_prepareGoings 227 = .ok (.iload_n 2, 1) := by decide +kernel
theorem dX9_prepareGoings_228 : decode cX9_prepareGoings 228 = .ok (.aaload, 1) := by decide +kernel
theorem dX9_prepareGoings_229 : decode cX9_prepareGoings 229 = .ok (.getfield 123, 3) := by decide +kernel
theorem dX9_prepareGoings_232 : decode cX9_prepareGoings 232 = .ok (.iastore, 1) := by decide +kernel
theorem dX9_prepareGoings_233 : decode cX9_prepareGoings 233 = .ok (.iinc 2 1, 3) := by decide +kernel
theorem dX9_prepareGoings_236 : decode cX9_prepareGoings 236 = .ok (.goto (-38), 3) := by decide +kernel
theorem dX9_prepareGoings_239 : decode cX9_prepareGoings 239 = .ok (.return_, 1) := by decide +kernel
theorem dX9_isOpenWith_0 : decode cX9_isOpenWith 0 = .ok (.iload_n 1, 1) := by decide +kernel
theorem dX9_isOpenWith_1 : decode cX9_isOpenWith 1 = .ok (.iconst 2, 1) := by decide +kernel
theorem dX9_isOpenWith_2 : decode cX9_isOpenWith 2 = .ok (.if_icmp .ne 13, 3) := by decide +kernel
theorem dX9_isOpenWith_5 : decode cX9_isOpenWith 5 = .ok (.aload_n 2, 1) := by decide +kernel
theorem dX9_isOpenWith_6 : decode cX9_isOpenWith 6 = .ok (.ifnull 7, 3) := by decide +kernel
theorem dX9_isOpenWith_9 : decode cX9_isOpenWith 9 = .ok (.iconst 1, 1) := by decide +kernel
theorem dX9_isOpenWith_10 : decode cX9_isOpenWith 10 = .ok (.goto 4, 3) := by decide +kernel
theorem dX9_isOpenWith_13 : decode cX9_isOpenWith 13 = .ok (.iconst 0, 1) := by decide +kernel
theorem dX9_isOpenWith_14 : decode cX9_isOpenWith 14 = .ok (.ireturn, 1) := by decide +kernel
theorem dX9_isOpenWith_15 : decode cX9_isOpenWith 15 = .ok (.aload_n 0, 1) := by decide +kernel
theorem dX9_isOpenWith_16 : decode cX9_isOpenWith 16 = .ok (.getfield 70, 3) := by decide +kernel
theorem dX9_isOpenWith_19 : decode cX9_isOpenWith 19 = .ok (.ifCond .ne 20, 3) := by decide +kernel
theorem dX9_isOpenWith_22 : decode cX9_isOpenWith 22 = .ok (.iload_n 1, 1) := by decide +kernel
theorem dX9_isOpenWith_23 : decode cX9_isOpenWith 23 = .ok (.iconst 3, 1) := by decide +kernel
theorem dX9_isOpenWith_24 : decode cX9_isOpenWith 24 = .ok (.if_icmp .eq 11, 3) := by decide +kernel
theorem dX9_isOpenWith_27 : decode cX9_isOpenWith 27 = .ok (.aload_n 2, 1) := by decide +kernel
theorem dX9_isOpenWith_28 : decode cX9_isOpenWith 28 = .ok (.ifnull 11, 3) := by decide +kernel
theorem dX9_isOpenWith_31 : decode cX9_isOpenWith 31 = .ok (.aload_n 3, 1) := by decide +kernel
theorem dX9_isOpenWith_32 : decode cX9_isOpenWith 32 = .ok (.ifnull 7, 3) := by decide +kernel
theorem dX9_isOpenWith_35 : decode cX9_isOpenWith 35 = .ok (.iconst 1, 1) := by decide +kernel
theorem dX9_isOpenWith_36 : decode cX9_isOpenWith 36 = .ok (.goto 4, 3) := by decide +kernel
theorem dX9_isOpenWith_39 : decode cX9_isOpenWith 39 = .ok (.iconst 0, 1) := by decide +kernel
theorem dX9_isOpenWith_40 : decode cX9_isOpenWith 40 = .ok (.ireturn, 1) := by decide +kernel
set_option maxRecDepth 20000 in
theorem ggX9_wear_X5_wear : GoodIn wsX9_wear wsX5_wear := goodIn_r _ [6, 7, 27, 28, 29, 30, 31] (by decide +kernel) (by decide +kernel)
set_option maxRecDepth 20000 in
theorem gX9_wear_X5_wear : GoodIn wsX9_wear (wsV RX9 126 RX5 yX5_wear wsX5_wear) := goodIn_app (goodIn_of _ (by decide +kernel)) ggX9_wear_X5_wear
theorem dX9_wear_0 : decode cX9_wear 0 = .ok (.aload_n 0, 1) := by decide +kernel
theorem dX9_wear_1 : decode cX9_wear 1 = .ok (.getfield 11, 3) := by decide +kernel
theorem dX9_wear_4 : decode cX9_wear 4 = .ok (.iload_n 1, 1) := by decide +kernel
theorem dX9_wear_5 : decode cX9_wear 5 = .ok (.aaload, 1) := by decide +kernel
theorem dX9_wear_6 : decode cX9_wear 6 = .ok (.ifnonnull 7, 3) := by decide +kernel
theorem dX9_wear_9 : decode cX9_wear 9 = .ok (.iconst 0, 1) := by decide +kernel
theorem dX9_wear_10 : decode cX9_wear 10 = .ok (.goto 12, 3) := by decide +kernel
theorem dX9_wear_13 : decode cX9_wear 13 = .ok (.aload_n 0, 1) := by decide +kernel
theorem dX9_wear_14 : decode cX9_wear 14 = .ok (.getfield 11, 3) := by decide +kernel
theorem dX9_wear_17 : decode cX9_wear 17 = .ok (.iload_n 1, 1) := by decide +kernel
theorem dX9_wear_18 : decode cX9_wear 18 = .ok (.aaload, 1) := by decide +kernel
theorem dX9_wear_19 : decode cX9_wear 19 = .ok (.invokevirtual 126, 3) := by decide +kernel
theorem dX9_wear_22 : decode cX9_wear 22 = .ok (.ireturn, 1) := by decide +kernel
theorem dX9_prepareLeast_0 : decode cX9_prepareLeast 0 = .ok (.aload_n 0, 1) := by decide +kernel
theorem dX9_prepareLeast_1 : decode cX9_prepareLeast 1 = .ok (.getfield 32, 3) := by decide +kernel
theorem dX9_prepareLeast_4 : decode cX9_prepareLeast 4 = .ok (.bipush 9, 2) := by decide +kernel
theorem dX9_prepareLeast_6 : decode cX9_prepareLeast 6 = .ok (.iconst 0, 1) := by decide +kernel
theorem dX9_prepareLeast_7 : decode cX9_prepareLeast 7 = .ok (.iastore, 1) := by decide +kernel
theorem dX9_prepareLeast_8 : decode cX9_prepareLeast 8 = .ok (.bipush 8, 2) := by decide +kernel
theorem dX9_prepareLeast_10 : decode cX9_prepareLeast 10 = .ok (.istore_n 1, 1) := by decide +kernel
theorem dX9_prepareLeast_11 : decode cX9_prepareLeast 11 = .ok (.iload_n 1, 1) := by decide +kernel
theorem dX9_prepareLeast_12 : decode cX9_prepareLeast 12 = .ok (.ifCond .lt 67, 3) := by decide +kernel
theorem dX9_prepareLeast_15 : decode cX9_prepareLeast 15 = .ok (.aload_n 0, 1) := by decide +kernel
theorem dX9_prepareLeast_16 : decode cX9_prepareLeast 16 = .ok (.getfield 74, 3) := by decide +kernel
theorem dX9_prepareLeast_19 : decode cX9_prepareLeast 19 = .ok (.iconst 1, 1) := by decide +kernel
theorem dX9_prepareLeast_20 : decode cX9_prepareLeast 20 = .ok (.iadd, 1) := by decide +kernel
theorem dX9_prepareLeast_21 : decode cX9_prepareLeast 21 = .ok (.istore_n 2, 1) := by decide +kernel
theorem dX9_prepareLeast_22 : decode cX9_prepareLeast 22 = .ok (.iconst 0, 1) := by decide +kernel
theorem dX9_prepareLeast_23 : decode cX9_prepareLeast 23 = .ok (.istore_n 3, 1) := by decide +kernel
theorem dX9_prepareLeast_24 : decode cX9_prepareLeast 24 = .ok (.iload_n 3, 1) := by decide +kernel
theorem dX9_prepareLeast_25 : decode cX9_prepareLeast 25 = .ok (.iconst 4, 1) := by decide +kernel
theorem dX9_prepareLeast_26 : decode cX9_prepareLeast 26 = .ok (.if_icmp .ge 31, 3) := by decide +kernel
theorem dX9_prepareLeast_29 : decode cX9_prepareLeast 29 = .ok (.aload_n 0, 1) := by decide +kernel
theorem dX9_prepareLeast_30 : decode cX9_prepareLeast 30 = .ok (.getfield 17, 3) := by decide +kernel
theorem dX9_prepareLeast_33 : decode cX9_prepareLeast 33 = .ok (.iload_n 3, 1) := by decide +kernel
theorem dX9_prepareLeast_34 : decode cX9_prepareLeast 34 = .ok (.baload, 1) := by decide +kernel
theorem dX9_prepareLeast_35 : decode cX9_prepareLeast 35 = .ok (.ifCond .eq 16, 3) := by decide +kernel
theorem dX9_prepareLeast_38 : decode cX9_prepareLeast 38 = .ok (.iload_n 2, 1) := by decide +kernel
theorem dX9_prepareLeast_39 : decode cX9_prepareLeast 39 = .ok (.aload_n 0, 1) := by decide +kernel
theorem dX9_prepareLeast_40 : decode cX9_prepareLeast 40 = .ok (.getfield 23, 3) := by decide +kernel
theorem dX9_prepareLeast_43 : decode cX9_prepareLeast 43 = .ok (.iload_n 3, 1) := by decide +kernel
theorem dX9_prepareLeast_44 : decode cX9_prepareLeast 44 = .ok (.aaload, 1) := by decide +kernel
theorem dX9_prepareLeast_45 : decode cX9_prepareLeast 45 = .ok (.iload_n 1, 1) := by decide +kernel
theorem dX9_prepareLeast_46 : decode cX9_prepareLeast 46 = .ok (.iaload, 1) := by decide +kernel
theorem dX9_prepareLeast_47 : decode cX9_prepareLeast 47 = .ok (.invokestatic 129, 3) := by decide +kernel
theorem dX9_prepareLeast_50 : decode cX9_prepareLeast 50 = .ok (.istore_n 2, 1) := by decide +kernel
theorem dX9_prepareLeast_51 : decode cX9_prepareLeast 51 = .ok (.iinc 3 1, 3) := by decide +kernel
theorem dX9_prepareLeast_54 : decode cX9_prepareLeast 54 = .ok (.goto (-30), 3) := by decide +kernel
theorem dX9_prepareLeast_57 : decode cX9_prepareLeast 57 = .ok (.aload_n 0, 1) := by decide +kernel
theorem dX9_prepareLeast_58 : decode cX9_prepareLeast 58 = .ok (.getfield 32, 3) := by decide +kernel
theorem dX9_prepareLeast_61 : decode cX9_prepareLeast 61 = .ok (.iload_n 1, 1) := by decide +kernel
theorem dX9_prepareLeast_62 : decode cX9_prepareLeast 62 = .ok (.aload_n 0, 1) := by decide +kernel
theorem dX9_prepareLeast_63 : decode cX9_prepareLeast 63 = .ok (.getfield 32, 3) := by decide +kernel
theorem dX9_prepareLeast_66 : decode cX9_prepareLeast 66 = .ok (.iload_n 1, 1) := by decide +kernel
theorem dX9_prepareLeast_67 : decode cX9_prepareLeast 67 = .ok (.iconst 1, 1) := by decide +kernel
theorem dX9_prepareLeast_68 : decode cX9_prepareLeast 68 = .ok (.iadd, 1) := by decide +kernel
theorem dX9_prepareLeast_69 : decode cX9_prepareLeast 69 = .ok (.iaload, 1) := by decide +kernel
theorem dX9_prepareLeast_70 : decode cX9_prepareLeast 70 = .ok (.iload_n 2, 1) := by decide +kernel
theorem dX9_prepareLeast_71 : decode cX9_prepareLeast 71 = .ok (.iadd, 1) := by decide +kernel
theorem dX9_prepareLeast_72 : decode cX9_prepareLeast 72 = .ok (.iastore, 1) := by decide +kernel
theorem dX9_prepareLeast_73 : decode cX9_prepareLeast 73 = .ok (.iinc 1 (-1), 3) := by decide +kernel
theorem dX9_prepareLeast_76 : decode cX9_prepareLeast 76 = .ok (.goto (-65), 3) := by decide +kernel
theorem dX9_prepareLeast_79 : decode cX9_prepareLeast 79 = .ok (.return_, 1) := by decide +kernel
set_option maxRecDepth 20000 in
theorem ggX9_tryRows_X9_isAllowed : GoodIn wsX9_tryRows wsX9_isAllowed := goodIn_r _ [7, 8, 9, 10, 11, 65, 66, 67, 68, 69, 70, 71, 72, 73, 74, 75, 76, 77, 78, 79, 80, 81, 82, 83] (by decide +kernel) (by decide +kernel)
set_option maxRecDepth 20000 in
theorem gX9_tryRows_X9_isAllowed : GoodIn wsX9_tryRows (wsV RX9 136 RX9 yX9_isAllowed wsX9_isAllowed) := goodIn_app (goodIn_of _ (by decide +kernel)) ggX9_tryRows_X9_isAllowed
set_option maxRecDepth 20000 in
theorem ggX9_tryRows_X9_hasSoles : GoodIn wsX9_tryRows wsX9_hasSoles := goodIn_r _ [15, 16, 17, 65, 66, 67, 68, 69, 70, 71, 72, 73, 74, 75, 76, 77, 78, 79, 80, 81, 82, 83] (by decide +kernel) (by decide +kernel)
set_option maxRecDepth 20000 in
theorem gX9_tryRows_X9_hasSoles : GoodIn wsX9_tryRows (wsV RX9 140 RX9 yX9_hasSoles wsX9_hasSoles) := goodIn_app (goodIn_of _ (by decide +kernel)) ggX9_tryRows_X9_hasSoles
set_option maxRecDepth 20000 in
theorem ggX9_tryRows_X9_isBetter : GoodIn wsX9_tryRows wsX9_isBetter := goodIn_r _ [21, 22, 23, 24, 25, 26, 27, 28, 29, 30, 65, 66, 67, 68, 69, 70, 71, 72, 73, 74, 75, 76, 77, 78, 79, 80, 81, 82, 83] (by decide +kernel) (by decide +kernel)
set_option maxRecDepth 20000 in
theorem gX9_tryRows_X9_isBetter : GoodIn wsX9_tryRows (wsV RX9 143 RX9 yX9_isBetter wsX9_isBetter) := goodIn_app (goodIn_of _ (by decide +kernel)) ggX9_tryRows_X9_isBetter
set_option maxRecDepth 20000 in
theorem ggX9_tryRows_X9_step : GoodIn wsX9_tryRows wsX9_step := goodIn_r _ [34, 22, 23, 26, 27, 9, 11, 35, 36, 37, 38, 16, 17, 65, 66, 67, 68, 69, 70, 71, 72, 73, 74, 75, 76, 77, 78, 79, 80, 81, 82, 83] (by decide +kernel) (by decide +kernel)
set_option maxRecDepth 20000 in
theorem gX9_tryRows_X9_step : GoodIn wsX9_tryRows (wsV RX9 146 RX9 yX9_step wsX9_step) := goodIn_app (goodIn_of _ (by decide +kernel)) ggX9_tryRows_X9_step
set_option maxRecDepth 20000 in
theorem ggX9_tryRows_X9_keep : GoodIn wsX9_tryRows wsX9_keep := goodIn_r _ [42, 28, 1, 43, 44, 45, 46, 47, 26, 29, 22, 30, 65, 66, 67, 68, 69, 70, 71, 72, 73, 74, 75, 76, 77, 78, 79, 80, 81, 82, 83] (by decide +kernel) (by decide +kernel)
set_option maxRecDepth 20000 in
theorem gX9_tryRows_X9_keep : GoodIn wsX9_tryRows (wsV RX9 150 RX9 yX9_keep wsX9_keep) := goodIn_app (goodIn_of _ (by decide +kernel)) ggX9_tryRows_X9_keep
set_option maxRecDepth 20000 in
theorem ggX9_tryRows_X9_isOutdone : GoodIn wsX9_tryRows wsX9_isOutdone := goodIn_r _ [51, 9, 11, 52, 26, 22, 53, 54, 55, 56, 57, 58, 59, 60, 61, 62, 63, 64, 65, 66, 67, 68, 69, 70, 71, 72, 73, 74, 75, 76, 77, 78, 79, 80, 81, 82, 83, 84, 85, 86, 87] (by decide +kernel) (by decide +kernel)
set_option maxRecDepth 20000 in
theorem gX9_tryRows_X9_isOutdone : GoodIn wsX9_tryRows (wsV RX9 153 RX9 yX9_isOutdone wsX9_isOutdone) := goodIn_app (goodIn_of _ (by decide +kernel)) ggX9_tryRows_X9_isOutdone
theorem dX9_tryRows_0 : decode cX9_tryRows 0 = .ok (.iconst 0, 1) := by decide +kernel
theorem dX9_tryRows_1 : decode cX9_tryRows 1 = .ok (.istore_n 1, 1) := by decide +kernel
theorem dX9_tryRows_2 : decode cX9_tryRows 2 = .ok (.aload_n 0, 1) := by decide +kernel
theorem dX9_tryRows_3 : decode cX9_tryRows 3 = .ok (.getfield 36, 3) := by decide +kernel
theorem dX9_tryRows_6 : decode cX9_tryRows 6 = .ok (.iconst 0, 1) := by decide +kernel
theorem dX9_tryRows_7 : decode cX9_tryRows 7 = .ok (.iconst (-1), 1) := by decide +kernel
theorem dX9_tryRows_8 : decode cX9_tryRows 8 = .ok (.iastore, 1) := by decide +kernel
theorem dX9_tryRows_9 : decode cX9_tryRows 9 = .ok (.iconst 0, 1) := by decide +kernel
theorem dX9_tryRows_10 : decode cX9_tryRows 10 = .ok (.istore_n 2, 1) := by decide +kernel
theorem dX9_tryRows_11 : decode cX9_tryRows 11 = .ok (.iload_n 2, 1) := by decide +kernel
theorem dX9_tryRows_12 : decode cX9_tryRows 12 = .ok (.ldc 135, 2) := by decide +kernel
theorem dX9_tryRows_14 : decode cX9_tryRows 14 = .ok (.if_icmp .ge 125, 3) := by decide +kernel
theorem dX9_tryRows_17 : decode cX9_tryRows 17 = .ok (.iload_n 1, 1) := by decide +kernel
theorem dX9_tryRows_18 : decode cX9_tryRows 18 = .ok (.ifCond .lt 121, 3) := by decide +kernel
theorem dX9_tryRows_21 : decode cX9_tryRows 21 = .ok (.aload_n 0, 1) := by decide +kernel
theorem dX9_tryRows_22 : decode cX9_tryRows 22 = .ok (.getfield 36, 3) := by decide +kernel
theorem dX9_tryRows_25 : decode cX9_tryRows 25 = .ok (.iload_n 1, 1) := by decide +kernel
theorem dX9_tryRows_26 : decode cX9_tryRows 26 = .ok (.dup2, 1) := by decide +kernel
theorem dX9_tryRows_27 : decode cX9_tryRows 27 = .ok (.iaload, 1) := by decide +kernel
theorem dX9_tryRows_28 : decode cX9_tryRows 28 = .ok (.iconst 1, 1) := by decide +kernel
theorem dX9_tryRows_29 : decode cX9_tryRows 29 = .ok (.iadd, 1) := by decide +kernel
theorem dX9_tryRows_30 : decode cX9_tryRows 30 = .ok (.iastore, 1) := by decide +kernel
theorem dX9_tryRows_31 : decode cX9_tryRows 31 = .ok (.aload_n 0, 1) := by decide +kernel
theorem dX9_tryRows_32 : decode cX9_tryRows 32 = .ok (.getfield 36, 3) := by decide +kernel
theorem dX9_tryRows_35 : decode cX9_tryRows 35 = .ok (.iload_n 1, 1) := by decide +kernel
theorem dX9_tryRows_36 : decode cX9_tryRows 36 = .ok (.iaload, 1) := by decide +kernel
theorem dX9_tryRows_37 : decode cX9_tryRows 37 = .ok (.iconst 4, 1) := by decide +kernel
theorem dX9_tryRows_38 : decode cX9_tryRows 38 = .ok (.if_icmp .lt 9, 3) := by decide +kernel
theorem dX9_tryRows_41 : decode cX9_tryRows 41 = .ok (.iinc 1 (-1), 3) := by decide +kernel
theorem dX9_tryRows_44 : decode cX9_tryRows 44 = .ok (.goto 89, 3) := by decide +kernel
theorem dX9_tryRows_47 : decode cX9_tryRows 47 = .ok (.aload_n 0, 1) := by decide +kernel
theorem dX9_tryRows_48 : decode cX9_tryRows 48 = .ok (.iload_n 1, 1) := by decide +kernel
theorem dX9_tryRows_49 : decode cX9_tryRows 49 = .ok (.aload_n 0, 1) := by decide +kernel
theorem dX9_tryRows_50 : decode cX9_tryRows 50 = .ok (.getfield 36, 3) := by decide +kernel
theorem dX9_tryRows_53 : decode cX9_tryRows 53 = .ok (.iload_n 1, 1) := by decide +kernel
theorem dX9_tryRows_54 : decode cX9_tryRows 54 = .ok (.iaload, 1) := by decide +kernel
theorem dX9_tryRows_55 : decode cX9_tryRows 55 = .ok (.invokevirtual 136, 3) := by decide +kernel
theorem dX9_tryRows_58 : decode cX9_tryRows 58 = .ok (.ifCond .eq 75, 3) := by decide +kernel
theorem dX9_tryRows_61 : decode cX9_tryRows 61 = .ok (.aload_n 0, 1) := by decide +kernel
theorem dX9_tryRows_62 : decode cX9_tryRows 62 = .ok (.iload_n 1, 1) := by decide +kernel
theorem dX9_tryRows_63 : decode cX9_tryRows 63 = .ok (.aload_n 0, 1) := by decide +kernel
theorem dX9_tryRows_64 : decode cX9_tryRows 64 = .ok (.getfield 36, 3) := by decide +kernel
theorem dX9_tryRows_67 : decode cX9_tryRows 67 = .ok (.iload_n 1, 1) := by decide +kernel
theorem dX9_tryRows_68 : decode cX9_tryRows 68 = .ok (.iaload, 1) := by decide +kernel
theorem dX9_tryRows_69 : decode cX9_tryRows 69 = .ok (.invokevirtual 140, 3) := by decide +kernel
theorem dX9_tryRows_72 : decode cX9_tryRows 72 = .ok (.ifCond .eq 61, 3) := by decide +kernel
theorem dX9_tryRows_75 : decode cX9_tryRows 75 = .ok (.aload_n 0, 1) := by decide +kernel
theorem dX9_tryRows_76 : decode cX9_tryRows 76 = .ok (.iload_n 1, 1) := by decide +kernel
theorem dX9_tryRows_77 : decode cX9_tryRows 77 = .ok (.aload_n 0, 1) := by decide +kernel
theorem dX9_tryRows_78 : decode cX9_tryRows 78 = .ok (.getfield 36, 3) := by decide +kernel
theorem dX9_tryRows_81 : decode cX9_tryRows 81 = .ok (.iload_n 1, 1) := by decide +kernel
theorem dX9_tryRows_82 : decode cX9_tryRows 82 = .ok (.iaload, 1) := by decide +kernel
theorem dX9_tryRows_83 : decode cX9_tryRows 83 = .ok (.invokevirtual 143, 3) := by decide +kernel
theorem dX9_tryRows_86 : decode cX9_tryRows 86 = .ok (.ifCond .eq 47, 3) := by decide +kernel
theorem dX9_tryRows_89 : decode cX9_tryRows 89 = .ok (.aload_n 0, 1) := by decide +kernel
theorem dX9_tryRows_90 : decode cX9_tryRows 90 = .ok (.iload_n 1, 1) := by decide +kernel
theorem dX9_tryRows_91 : decode cX9_tryRows 91 = .ok (.aload_n 0, 1) := by decide +kernel
theorem dX9_tryRows_92 : decode cX9_tryRows 92 = .ok (.getfield 36, 3) := by decide +kernel
theorem dX9_tryRows_95 : decode cX9_tryRows 95 = .ok (.iload_n 1, 1) := by decide +kernel
theorem dX9_tryRows_96 : decode cX9_tryRows 96 = .ok (.iaload, 1) := by decide +kernel
theorem dX9_tryRows_97 : decode cX9_tryRows 97 = .ok (.invokevirtual 146, 3) := by decide +kernel
theorem dX9_tryRows_100 : decode cX9_tryRows 100 = .ok (.iload_n 1, 1) := by decide +kernel
theorem dX9_tryRows_101 : decode cX9_tryRows 101 = .ok (.bipush 8, 2) := by decide +kernel
theorem dX9_tryRows_103 : decode cX9_tryRows 103 = .ok (.if_icmp .ne 10, 3) := by decide +kernel
theorem dX9_tryRows_106 : decode cX9_tryRows 106 = .ok (.aload_n 0, 1) := by decide +kernel
theorem dX9_tryRows_107 : decode cX9_tryRows 107 = .ok (.invokevirtual 150, 3) := by decide +kernel
theorem dX9_tryRows_110 : decode cX9_tryRows 110 = .ok (.goto 23, 3) := by decide +kernel
theorem dX9_tryRows_113 : decode cX9_tryRows 113 = .ok (.aload_n 0, 1) := by decide +kernel
theorem dX9_tryRows_114 : decode cX9_tryRows 114 = .ok (.iload_n 1, 1) := by decide +kernel
theorem dX9_tryRows_115 : decode cX9_tryRows 115 = .ok (.iconst 1, 1) := by decide +kernel
theorem dX9_tryRows_116 : decode cX9_tryRows 116 = .ok (.iadd, 1) := by decide +kernel
theorem dX9_tryRows_117 : decode cX9_tryRows 117 = .ok (.invokevirtual 153, 3) := by decide +kernel
theorem dX9_tryRows_120 : decode cX9_tryRows 120 = .ok (.ifCond .ne 13, 3) := by decide +kernel
theorem dX9_tryRows_123 : decode cX9_tryRows 123 = .ok (.iinc 1 1, 3) := by decide +kernel
theorem dX9_tryRows_126 : decode cX9_tryRows 126 = .ok (.aload_n 0, 1) := by decide +kernel
theorem dX9_tryRows_127 : decode cX9_tryRows 127 = .ok (.getfield 36, 3) := by decide +kernel
theorem dX9_tryRows_130 : decode cX9_tryRows 130 = .ok (.iload_n 1, 1) := by decide +kernel
theorem dX9_tryRows_131 : decode cX9_tryRows 131 = .ok (.iconst (-1), 1) := by decide +kernel
theorem dX9_tryRows_132 : decode cX9_tryRows 132 = .ok (.iastore, 1) := by decide +kernel
theorem dX9_tryRows_133 : decode cX9_tryRows 133 = .ok (.iinc 2 1, 3) := by decide +kernel
theorem dX9_tryRows_136 : decode cX9_tryRows 136 = .ok (.goto (-125), 3) := by decide +kernel
theorem dX9_tryRows_139 : decode cX9_tryRows 139 = .ok (.return_, 1) := by decide +kernel
theorem dX9_isAllowed_0 : decode cX9_isAllowed 0 = .ok (.aload_n 0, 1) := by decide +kernel
theorem dX9_isAllowed_1 : decode cX9_isAllowed 1 = .ok (.getfield 17, 3) := by decide +kernel
theorem dX9_isAllowed_4 : decode cX9_isAllowed 4 = .ok (.iload_n 2, 1) := by decide +kernel
theorem dX9_isAllowed_5 : decode cX9_isAllowed 5 = .ok (.baload, 1) := by decide +kernel
theorem dX9_isAllowed_6 : decode cX9_isAllowed 6 = .ok (.ifCond .ne 5, 3) := by decide +kernel
theorem dX9_isAllowed_9 : decode cX9_isAllowed 9 = .ok (.iconst 0, 1) := by decide +kernel
theorem dX9_isAllowed_10 : decode cX9_isAllowed 10 = .ok (.ireturn, 1) := by decide +kernel
theorem dX9_isAllowed_11 : decode cX9_isAllowed 11 = .ok (.iload_n 2, 1) := by decide +kernel
theorem dX9_isAllowed_12 : decode cX9_isAllowed 12 = .ok (.iconst 3, 1) := by decide +kernel
theorem dX9_isAllowed_13 : decode cX9_isAllowed 13 = .ok (.if_icmp .ne 21, 3) := by decide +kernel
theorem dX9_isAllowed_16 : decode cX9_isAllowed 16 = .ok (.aload_n 0, 1) := by decide +kernel
theorem dX9_isAllowed_17 : decode cX9_isAllowed 17 = .ok (.getfield 45, 3) := by decide +kernel
theorem dX9_isAllowed_20 : decode cX9_isAllowed 20 = .ok (.iload_n 1, 1) := by decide +kernel
theorem dX9_isAllowed_21 : decode cX9_isAllowed 21 = .ok (.aaload, 1) := by decide +kernel
theorem dX9_isAllowed_22 : decode cX9_isAllowed 22 = .ok (.iconst 3, 1) := by decide +kernel
theorem dX9_isAllowed_23 : decode cX9_isAllowed 23 = .ok (.iaload, 1) := by decide +kernel
theorem dX9_isAllowed_24 : decode cX9_isAllowed 24 = .ok (.iconst 4, 1) := by decide +kernel
theorem dX9_isAllowed_25 : decode cX9_isAllowed 25 = .ok (.if_icmp .ge 7, 3) := by decide +kernel
theorem dX9_isAllowed_28 : decode cX9_isAllowed 28 = .ok (.iconst 1, 1) := by decide +kernel
theorem dX9_isAllowed_29 : decode cX9_isAllowed 29 = .ok (.goto 4, 3) := by decide +kernel
theorem dX9_isAllowed_32 : decode cX9_isAllowed 32 = .ok (.iconst 0, 1) := by decide +kernel
theorem dX9_isAllowed_33 : decode cX9_isAllowed 33 = .ok (.ireturn, 1) := by decide +kernel
theorem dX9_isAllowed_34 : decode cX9_isAllowed 34 = .ok (.iload_n 2, 1) := by decide +kernel
theorem dX9_isAllowed_35 : decode cX9_isAllowed 35 = .ok (.iconst 2, 1) := by decide +kernel
theorem dX9_isAllowed_36 : decode cX9_isAllowed 36 = .ok (.if_icmp .ne 20, 3) := by decide +kernel
theorem dX9_isAllowed_39 : decode cX9_isAllowed 39 = .ok (.aload_n 0, 1) := by decide +kernel
theorem dX9_isAllowed_40 : decode cX9_isAllowed 40 = .ok (.getfield 70, 3) := by decide +kernel
theorem dX9_isAllowed_43 : decode cX9_isAllowed 43 = .ok (.ifCond .ne 13, 3) := by decide +kernel
theorem dX9_isAllowed_46 : decode cX9_isAllowed 46 = .ok (.aload_n 0, 1) := by decide +kernel
theorem dX9_isAllowed_47 : decode cX9_isAllowed 47 = .ok (.getfield 48, 3) := by decide +kernel
theorem dX9_isAllowed_50 : decode cX9_isAllowed 50 = .ok (.iload_n 1, 1) := by decide +kernel
theorem dX9_isAllowed_51 : decode cX9_isAllowed 51 = .ok (.iaload, 1) := by decide +kernel
theorem dX9_isAllowed_52 : decode cX9_isAllowed 52 = .ok (.iconst 2, 1) := by decide +kernel
theorem dX9_isAllowed_53 : decode cX9_isAllowed 53 = .ok (.if_icmp .ge 7, 3) := by decide +kernel
theorem dX9_isAllowed_56 : decode cX9_isAllowed 56 = .ok (.iconst 1, 1) := by decide +kernel
theorem dX9_isAllowed_57 : decode cX9_isAllowed 57 = .ok (.goto 4, 3) := by decide +kernel
theorem dX9_isAllowed_60 : decode cX9_isAllowed 60 = .ok (.iconst 0, 1) := by decide +kernel
theorem dX9_isAllowed_61 : decode cX9_isAllowed 61 = .ok (.ireturn, 1) := by decide +kernel
theorem dX9_hasSoles_0 : decode cX9_hasSoles 0 = .ok (.iconst 0, 1) := by decide +kernel
theorem dX9_hasSoles_1 : decode cX9_hasSoles 1 = .ok (.istore_n 3, 1) := by decide +kernel
theorem dX9_hasSoles_2 : decode cX9_hasSoles 2 = .ok (.iload_n 3, 1) := by decide +kernel
theorem dX9_hasSoles_3 : decode cX9_hasSoles 3 = .ok (.iconst 3, 1) := by decide +kernel
theorem dX9_hasSoles_4 : decode cX9_hasSoles 4 = .ok (.if_icmp .ge 30, 3) := by decide +kernel
theorem dX9_hasSoles_7 : decode cX9_hasSoles 7 = .ok (.aload_n 0, 1) := by decide +kernel
theorem dX9_hasSoles_8 : decode cX9_hasSoles 8 = .ok (.getfield 51, 3) := by decide +kernel
theorem dX9_hasSoles_11 : decode cX9_hasSoles 11 = .ok (.iload_n 1, 1) := by decide +kernel
theorem dX9_hasSoles_12 : decode cX9_hasSoles 12 = .ok (.aaload, 1) := by decide +kernel
theorem dX9_hasSoles_13 : decode cX9_hasSoles 13 = .ok (.iload_n 3, 1) := by decide +kernel
theorem dX9_hasSoles_14 : decode cX9_hasSoles 14 = .ok (.iaload, 1) := by decide +kernel
theorem dX9_hasSoles_15 : decode cX9_hasSoles 15 = .ok (.aload_n 0, 1) := by decide +kernel
theorem dX9_hasSoles_16 : decode cX9_hasSoles 16 = .ok (.getfield 29, 3) := by decide +kernel
theorem dX9_hasSoles_19 : decode cX9_hasSoles 19 = .ok (.iload_n 2, 1) := by decide +kernel
theorem dX9_hasSoles_20 : decode cX9_hasSoles 20 = .ok (.aaload, 1) := by decide +kernel
theorem dX9_hasSoles_21 : decode cX9_hasSoles 21 = .ok (.iload_n 3, 1) := by decide +kernel
theorem dX9_hasSoles_22 : decode cX9_hasSoles 22 = .ok (.iaload, 1) := by decide +kernel
theorem dX9_hasSoles_23 : decode cX9_hasSoles 23 = .ok (.if_icmp .ge 5, 3) := by decide +kernel
theorem dX9_hasSoles_26 : decode cX9_hasSoles 26 = .ok (.iconst 0, 1) := by decide +kernel
theorem dX9_hasSoles_27 : decode cX9_hasSoles 27 = .ok (.ireturn, 1) := by decide +kernel
theorem dX9_hasSoles_28 : decode cX9_hasSoles 28 = .ok (.iinc 3 1, 3) := by decide +kernel
theorem dX9_hasSoles_31 : decode cX9_hasSoles 31 = .ok (.goto (-29), 3) := by decide +kernel
theorem dX9_hasSoles_34 : decode cX9_hasSoles 34 = .ok (.iconst 1, 1) := by decide +kernel
theorem dX9_hasSoles_35 : decode cX9_hasSoles 35 = .ok (.ireturn, 1) := by decide +kernel
theorem dX9_isBetter_0 : decode cX9_isBetter 0 = .ok (.aload_n 0, 1) := by decide +kernel
theorem dX9_isBetter_1 : decode cX9_isBetter 1 = .ok (.getfield 39, 3) := by decide +kernel
theorem dX9_isBetter_4 : decode cX9_isBetter 4 = .ok (.iload_n 1, 1) := by decide +kernel
theorem dX9_isBetter_5 : decode cX9_isBetter 5 = .ok (.iaload, 1) := by decide +kernel
theorem dX9_isBetter_6 : decode cX9_isBetter 6 = .ok (.aload_n 0, 1) := by decide +kernel
theorem dX9_isBetter_7 : decode cX9_isBetter 7 = .ok (.getfield 23, 3) := by decide +kernel
theorem dX9_isBetter_10 : decode cX9_isBetter 10 = .ok (.iload_n 2, 1) := by decide +kernel
theorem dX9_isBetter_11 : decode cX9_isBetter 11 = .ok (.aaload, 1) := by decide +kernel
theorem dX9_isBetter_12 : decode cX9_isBetter 12 = .ok (.iload_n 1, 1) := by decide +kernel
theorem dX9_isBetter_13 : decode cX9_isBetter 13 = .ok (.iaload, 1) := by decide +kernel
theorem dX9_isBetter_14 : decode cX9_isBetter 14 = .ok (.iadd, 1) := by decide +kernel
theorem dX9_isBetter_15 : decode cX9_isBetter 15 = .ok (.aload_n 0, 1) := by decide +kernel
theorem dX9_isBetter_16 : decode cX9_isBetter 16 = .ok (.getfield 32, 3) := by decide +kernel
theorem dX9_isBetter_19 : decode cX9_isBetter 19 = .ok (.iload_n 1, 1) := by decide +kernel
theorem dX9_isBetter_20 : decode cX9_isBetter 20 = .ok (.iconst 1, 1) := by decide +kernel
theorem dX9_isBetter_21 : decode cX9_isBetter 21 = .ok (.iadd, 1) := by decide +kernel
theorem dX9_isBetter_22 : decode cX9_isBetter 22 = .ok (.iaload, 1) := by decide +kernel
theorem dX9_isBetter_23 : decode cX9_isBetter 23 = .ok (.iadd, 1) := by decide +kernel
theorem dX9_isBetter_24 : decode cX9_isBetter 24 = .ok (.istore_n 3, 1) := by decide +kernel
theorem dX9_isBetter_25 : decode cX9_isBetter 25 = .ok (.iload_n 3, 1) := by decide +kernel
theorem dX9_isBetter_26 : decode cX9_isBetter 26 = .ok (.aload_n 0, 1) := by decide +kernel
theorem dX9_isBetter_27 : decode cX9_isBetter 27 = .ok (.getfield 74, 3) := by decide +kernel
theorem dX9_isBetter_30 : decode cX9_isBetter 30 = .ok (.if_icmp .le 5, 3) := by decide +kernel
theorem dX9_isBetter_33 : decode cX9_isBetter 33 = .ok (.iconst 0, 1) := by decide +kernel
theorem dX9_isBetter_34 : decode cX9_isBetter 34 = .ok (.ireturn, 1) := by decide +kernel
theorem dX9_isBetter_35 : decode cX9_isBetter 35 = .ok (.aload_n 0, 1) := by decide +kernel
theorem dX9_isBetter_36 : decode cX9_isBetter 36 = .ok (.getfield 42, 3) := by decide +kernel
theorem dX9_isBetter_39 : decode cX9_isBetter 39 = .ok (.iload_n 1, 1) := by decide +kernel
theorem dX9_isBetter_40 : decode cX9_isBetter 40 = .ok (.iaload, 1) := by decide +kernel
theorem dX9_isBetter_41 : decode cX9_isBetter 41 = .ok (.aload_n 0, 1) := by decide +kernel
theorem dX9_isBetter_42 : decode cX9_isBetter 42 = .ok (.getfield 26, 3) := by decide +kernel
theorem dX9_isBetter_45 : decode cX9_isBetter 45 = .ok (.iload_n 2, 1) := by decide +kernel
theorem dX9_isBetter_46 : decode cX9_isBetter 46 = .ok (.aaload, 1) := by decide +kernel
theorem dX9_isBetter_47 : decode cX9_isBetter 47 = .ok (.iload_n 1, 1) := by decide +kernel
theorem dX9_isBetter_48 : decode cX9_isBetter 48 = .ok (.iaload, 1) := by decide +kernel
theorem dX9_isBetter_49 : decode cX9_isBetter 49 = .ok (.iadd, 1) := by decide +kernel
theorem dX9_isBetter_50 : decode cX9_isBetter 50 = .ok (.istore 4, 2) := by decide +kernel
theorem dX9_isBetter_52 : decode cX9_isBetter 52 = .ok (.aload_n 0, 1) := by decide +kernel
theorem dX9_isBetter_53 : decode cX9_isBetter 53 = .ok (.getfield 88, 3) := by decide +kernel
theorem dX9_isBetter_56 : decode cX9_isBetter 56 = .ok (.ifCond .eq 29, 3) := by decide +kernel
theorem dX9_isBetter_59 : decode cX9_isBetter 59 = .ok (.iload 4, 2) := by decide +kernel
theorem dX9_isBetter_61 : decode cX9_isBetter 61 = .ok (.aload_n 0, 1) := by decide +kernel
theorem dX9_isBetter_62 : decode cX9_isBetter 62 = .ok (.getfield 91, 3) := by decide +kernel
theorem dX9_isBetter_65 : decode cX9_isBetter 65 = .ok (.if_icmp .lt 20, 3) := by decide +kernel
theorem dX9_isBetter_68 : decode cX9_isBetter 68 = .ok (.iload 4, 2) := by decide +kernel
theorem dX9_isBetter_70 : decode cX9_isBetter 70 = .ok (.aload_n 0, 1) := by decide +kernel
theorem dX9_isBetter_71 : decode cX9_isBetter 71 = .ok (.getfield 91, 3) := by decide +kernel
theorem dX9_isBetter_74 : decode cX9_isBetter 74 = .ok (.if_icmp .ne 15, 3) := by decide +kernel
theorem dX9_isBetter_77 : decode cX9_isBetter 77 = .ok (.iload_n 3, 1) := by decide +kernel
theorem dX9_isBetter_78 : decode cX9_isBetter 78 = .ok (.aload_n 0, 1) := by decide +kernel
theorem dX9_isBetter_79 : decode cX9_isBetter 79 = .ok (.getfield 94, 3) := by decide +kernel
theorem dX9_isBetter_82 : decode cX9_isBetter 82 = .ok (.if_icmp .ge 7, 3) := by decide +kernel
theorem dX9_isBetter_85 : decode cX9_isBetter 85 = .ok (.iconst 1, 1) := by decide +kernel
theorem dX9_isBetter_86 : decode cX9_isBetter 86 = .ok (.goto 4, 3) := by decide +kernel
theorem dX9_isBetter_89 : decode cX9_isBetter 89 = .ok (.iconst 0, 1) := by decide +kernel
theorem dX9_isBetter_90 : decode cX9_isBetter 90 = .ok (.ireturn, 1) := by decide +kernel
theorem dX9_step_0 : decode cX9_step 0 = .ok (.aload_n 0, 1) := by decide +kernel
theorem dX9_step_1 : decode cX9_step 1 = .ok (.getfield 39, 3) := by decide +kernel
theorem dX9_step_4 : decode cX9_step 4 = .ok (.iload_n 1, 1) := by decide +kernel
theorem dX9_step_5 : decode cX9_step 5 = .ok (.iconst 1, 1) := by decide +kernel
theorem dX9_step_6 : decode cX9_step 6 = .ok (.iadd, 1) := by decide +kernel
theorem dX9_step_7 : decode cX9_step 7 = .ok (.aload_n 0, 1) := by decide +kernel
theorem dX9_step_8 : decode cX9_step 8 = .ok (.getfield 39, 3) := by decide +kernel
theorem dX9_step_11 : decode cX9_step 11 = .ok (.iload_n 1, 1) := by decide +kernel
theorem dX9_step_12 : decode cX9_step 12 = .ok (.iaload, 1) := by decide +kernel
theorem dX9_step_13 : decode cX9_step 13 = .ok (.aload_n 0, 1) := by decide +kernel
theorem dX9_step_14 : decode cX9_step 14 = .ok (.getfield 23, 3) := by decide +kernel
theorem dX9_step_17 : decode cX9_step 17 = .ok (.iload_n 2, 1) := by decide +kernel
theorem dX9_step_18 : decode cX9_step 18 = .ok (.aaload, 1) := by decide +kernel
theorem dX9_step_19 : decode cX9_step 19 = .ok (.iload_n 1, 1) := by decide +kernel
theorem dX9_step_20 : decode cX9_step 20 = .ok (.iaload, 1) := by decide +kernel
theorem dX9_step_21 : decode cX9_step 21 = .ok (.iadd, 1) := by decide +kernel
theorem dX9_step_22 : decode cX9_step 22 = .ok (.iastore, 1) := by decide +kernel
theorem dX9_step_23 : decode cX9_step 23 = .ok (.aload_n 0, 1) := by decide +kernel
theorem dX9_step_24 : decode cX9_step 24 = .ok (.getfield 42, 3) := by decide +kernel
theorem dX9_step_27 : decode cX9_step 27 = .ok (.iload_n 1, 1) := by decide +kernel
theorem dX9_step_28 : decode cX9_step 28 = .ok (.iconst 1, 1) := by decide +kernel
theorem dX9_step_29 : decode cX9_step 29 = .ok (.iadd, 1) := by decide +kernel
theorem dX9_step_30 : decode cX9_step 30 = .ok (.aload_n 0, 1) := by decide +kernel
theorem dX9_step_31 : decode cX9_step 31 = .ok (.getfield 42, 3) := by decide +kernel
theorem dX9_step_34 : decode cX9_step 34 = .ok (.iload_n 1, 1) := by decide +kernel
theorem dX9_step_35 : decode cX9_step 35 = .ok (.iaload, 1) := by decide +kernel
theorem dX9_step_36 : decode cX9_step 36 = .ok (.aload_n 0, 1) := by decide +kernel
theorem dX9_step_37 : decode cX9_step 37 = .ok (.getfield 26, 3) := by decide +kernel
theorem dX9_step_40 : decode cX9_step 40 = .ok (.iload_n 2, 1) := by decide +kernel
theorem dX9_step_41 : decode cX9_step 41 = .ok (.aaload, 1) := by decide +kernel
theorem dX9_step_42 : decode cX9_step 42 = .ok (.iload_n 1, 1) := by decide +kernel
theorem dX9_step_43 : decode cX9_step 43 = .ok (.iaload, 1) := by decide +kernel
theorem dX9_step_44 : decode cX9_step 44 = .ok (.iadd, 1) := by decide +kernel
theorem dX9_step_45 : decode cX9_step 45 = .ok (.iastore, 1) := by decide +kernel
theorem dX9_step_46 : decode cX9_step 46 = .ok (.iconst 0, 1) := by decide +kernel
theorem dX9_step_47 : decode cX9_step 47 = .ok (.istore_n 3, 1) := by decide +kernel
theorem dX9_step_48 : decode cX9_step 48 = .ok (.iload_n 3, 1) := by decide +kernel
theorem dX9_step_49 : decode cX9_step 49 = .ok (.iconst 4, 1) := by decide +kernel
theorem dX9_step_50 : decode cX9_step 50 = .ok (.if_icmp .ge 38, 3) := by decide +kernel
theorem dX9_step_53 : decode cX9_step 53 = .ok (.aload_n 0, 1) := by decide +kernel
theorem dX9_step_54 : decode cX9_step 54 = .ok (.getfield 45, 3) := by decide +kernel
theorem dX9_step_57 : decode cX9_step 57 = .ok (.iload_n 1, 1) := by decide +kernel
theorem dX9_step_58 : decode cX9_step 58 = .ok (.iconst 1, 1) := by decide +kernel
theorem dX9_step_59 : decode cX9_step 59 = .ok (.iadd, 1) := by decide +kernel
theorem dX9_step_60 : decode cX9_step 60 = .ok (.aaload, 1) := by decide +kernel
theorem dX9_step_61 : decode cX9_step 61 = .ok (.iload_n 3, 1) := by decide +kernel
theorem dX9_step_62 : decode cX9_step 62 = .ok (.aload_n 0, 1) := by decide +kernel
theorem dX9_step_63 : decode cX9_step 63 = .ok (.getfield 45, 3) := by decide +kernel
theorem dX9_step_66 : decode cX9_step 66 = .ok (.iload_n 1, 1) := by decide +kernel
theorem dX9_step_67 : decode cX9_step 67 = .ok (.aaload, 1) := by decide +kernel
theorem dX9_step_68 : decode cX9_step 68 = .ok (.iload_n 3, 1) := by decide +kernel
theorem dX9_step_69 : decode cX9_step 69 = .ok (.iaload, 1) := by decide +kernel
theorem dX9_step_70 : decode cX9_step 70 = .ok (.iload_n 2, 1) := by decide +kernel
theorem dX9_step_71 : decode cX9_step 71 = .ok (.iload_n 3, 1) := by decide +kernel
theorem dX9_step_72 : decode cX9_step 72 = .ok (.if_icmp .ne 7, 3) := by decide +kernel
theorem dX9_step_75 : decode cX9_step 75 = .ok (.iconst 1, 1) := by decide +kernel
theorem dX9_step_76 : decode cX9_step 76 = .ok (.goto 4, 3) := by decide +kernel
theorem dX9_step_79 : decode cX9_step 79 = .ok (.iconst 0, 1) := by decide +kernel
theorem dX9_step_80 : decode cX9_step 80 = .ok (.iadd, 1) := by decide +kernel
theorem dX9_step_81 : decode cX9_step 81 = .ok (.iastore, 1) := by decide +kernel
theorem dX9_step_82 : decode cX9_step 82 = .ok (.iinc 3 1, 3) := by decide +kernel
theorem dX9_step_85 : decode cX9_step 85 = .ok (.goto (-37), 3) := by decide +kernel
theorem dX9_step_88 : decode cX9_step 88 = .ok (.aload_n 0, 1) := by decide +kernel
theorem dX9_step_89 : decode cX9_step 89 = .ok (.getfield 48, 3) := by decide +kernel
theorem dX9_step_92 : decode cX9_step 92 = .ok (.iload_n 1, 1) := by decide +kernel
theorem dX9_step_93 : decode cX9_step 93 = .ok (.iconst 1, 1) := by decide +kernel
theorem dX9_step_94 : decode cX9_step 94 = .ok (.iadd, 1) := by decide +kernel
theorem dX9_step_95 : decode cX9_step 95 = .ok (.iload_n 2, 1) := by decide +kernel
theorem dX9_step_96 : decode cX9_step 96 = .ok (.iconst 2, 1) := by decide +kernel
theorem dX9_step_97 : decode cX9_step 97 = .ok (.if_icmp .ne 18, 3) := by decide +kernel
theorem dX9_step_100 : decode cX9_step 100 = .ok (.aload_n 0, 1) := by decide +kernel
theorem dX9_step_101 : decode cX9_step 101 = .ok (.getfield 48, 3) := by decide +kernel
theorem dX9_step_104 : decode cX9_step 104 = .ok (.iload_n 1, 1) := by decide +kernel
theorem dX9_step_105 : decode cX9_step 105 = .ok (.iaload, 1) := by decide +kernel
theorem dX9_step_106 : decode cX9_step 106 = .ok (.iconst 1, 1) := by decide +kernel
theorem dX9_step_107 : decode cX9_step 107 = .ok (.iadd, 1) := by decide +kernel
theorem dX9_step_108 : decode cX9_step 108 = .ok (.iconst 2, 1) := by decide +kernel
theorem dX9_step_109 : decode cX9_step 109 = .ok (.invokestatic 129, 3) := by decide +kernel
theorem dX9_step_112 : decode cX9_step 112 = .ok (.goto 4, 3) := by decide +kernel
theorem dX9_step_115 : decode cX9_step 115 = .ok (.iconst 0, 1) := by decide +kernel
theorem dX9_step_116 : decode cX9_step 116 = .ok (.iastore, 1) := by decide +kernel
theorem dX9_step_117 : decode cX9_step 117 = .ok (.iconst 0, 1) := by decide +kernel
theorem dX9_step_118 : decode cX9_step 118 = .ok (.istore_n 3, 1) := by decide +kernel
theorem dX9_step_119 : decode cX9_step 119 = .ok (.iload_n 3, 1) := by decide +kernel
theorem dX9_step_120 : decode cX9_step 120 = .ok (.iconst 3, 1) := by decide +kernel
theorem dX9_step_121 : decode cX9_step 121 = .ok (.if_icmp .ge 36, 3) := by decide +kernel
theorem dX9_step_124 : decode cX9_step 124 = .ok (.aload_n 0, 1) := by decide +kernel
theorem dX9_step_125 : decode cX9_step 125 = .ok (.getfield 51, 3) := by decide +kernel
theorem dX9_step_128 : decode cX9_step 128 = .ok (.iload_n 1, 1) := by decide +kernel
theorem dX9_step_129 : decode cX9_step 129 = .ok (.iconst 1, 1) := by decide +kernel
theorem dX9_step_130 : decode cX9_step 130 = .ok (.iadd, 1) := by decide +kernel
theorem dX9_step_131 : decode cX9_step 131 = .ok (.aaload, 1) := by decide +kernel
theorem dX9_step_132 : decode cX9_step 132 = .ok (.iload_n 3, 1) := by decide +kernel
theorem dX9_step_133 : decode cX9_step 133 = .ok (.aload_n 0, 1) := by decide +kernel
theorem dX9_step_134 : decode cX9_step 134 = .ok (.getfield 51, 3) := by decide +kernel
theorem dX9_step_137 : decode cX9_step 137 = .ok (.iload_n 1, 1) := by decide +kernel
theorem dX9_step_138 : decode cX9_step 138 = .ok (.aaload, 1) := by decide +kernel
theorem dX9_step_139 : decode cX9_step 139 = .ok (.iload_n 3, 1) := by decide +kernel
theorem dX9_step_140 : decode cX9_step 140 = .ok (.iaload, 1) := by decide +kernel
theorem dX9_step_141 : decode cX9_step 141 = .ok (.aload_n 0, 1) := by decide +kernel
theorem dX9_step_142 : decode cX9_step 142 = .ok (.getfield 29, 3) := by decide +kernel
theorem dX9_step_145 : decode cX9_step 145 = .ok (.iload_n 2, 1) := by decide +kernel
theorem dX9_step_146 : decode cX9_step 146 = .ok (.aaload, 1) := by decide +kernel
theorem dX9_step_147 : decode cX9_step 147 = .ok (.iload_n 3, 1) := by decide +kernel
theorem dX9_step_148 : decode cX9_step 148 = .ok (.iaload, 1) := by decide +kernel
theorem dX9_step_149 : decode cX9_step 149 = .ok (.isub, 1) := by decide +kernel
theorem dX9_step_150 : decode cX9_step 150 = .ok (.iastore, 1) := by decide +kernel
theorem dX9_step_151 : decode cX9_step 151 = .ok (.iinc 3 1, 3) := by decide +kernel
theorem dX9_step_154 : decode cX9_step 154 = .ok (.goto (-35), 3) := by decide +kernel
theorem dX9_step_157 : decode cX9_step 157 = .ok (.return_, 1) := by decide +kernel
set_option maxRecDepth 20000 in
theorem ggX9_isOutdone_X0_betters : GoodIn wsX9_isOutdone wsX0_betters := goodIn_r _ [10, 11, 12, 13, 14, 15, 16, 17, 37, 38, 39, 40] (by decide +kernel) (by decide +kernel)
set_option maxRecDepth 20000 in
theorem gX9_isOutdone_X0_betters : GoodIn wsX9_isOutdone (wsV RX9 157 RX0 yX0_betters wsX0_betters) := goodIn_app (goodIn_of _ (by decide +kernel)) ggX9_isOutdone_X0_betters
theorem dX9_isOutdone_0 : decode cX9_isOutdone 0 = .ok (.aload_n 0, 1) := by decide +kernel
theorem dX9_isOutdone_1 : decode cX9_isOutdone 1 = .ok (.getfield 45, 3) := by decide +kernel
theorem dX9_isOutdone_4 : decode cX9_isOutdone 4 = .ok (.iload_n 1, 1) := by decide +kernel
theorem dX9_isOutdone_5 : decode cX9_isOutdone 5 = .ok (.aaload, 1) := by decide +kernel
theorem dX9_isOutdone_6 : decode cX9_isOutdone 6 = .ok (.astore_n 2, 1) := by decide +kernel
theorem dX9_isOutdone_7 : decode cX9_isOutdone 7 = .ok (.iload_n 1, 1) := by decide +kernel
theorem dX9_isOutdone_8 : decode cX9_isOutdone 8 = .ok (.bipush 9, 2) := by decide +kernel
theorem dX9_isOutdone_10 : decode cX9_isOutdone 10 = .ok (.imul, 1) := by decide +kernel
theorem dX9_isOutdone_11 : decode cX9_isOutdone 11 = .ok (.aload_n 2, 1) := by decide +kernel
theorem dX9_isOutdone_12 : decode cX9_isOutdone 12 = .ok (.iconst 0, 1) := by decide +kernel
theorem dX9_isOutdone_13 : decode cX9_isOutdone 13 = .ok (.iaload, 1) := by decide +kernel
theorem dX9_isOutdone_14 : decode cX9_isOutdone 14 = .ok (.iadd, 1) := by decide +kernel
theorem dX9_isOutdone_15 : decode cX9_isOutdone 15 = .ok (.bipush 9, 2) := by decide +kernel
theorem dX9_isOutdone_17 : decode cX9_isOutdone 17 = .ok (.imul, 1) := by decide +kernel
theorem dX9_isOutdone_18 : decode cX9_isOutdone 18 = .ok (.aload_n 2, 1) := by decide +kernel
theorem dX9_isOutdone_19 : decode cX9_isOutdone 19 = .ok (.iconst 1, 1) := by decide +kernel
theorem dX9_isOutdone_20 : decode cX9_isOutdone 20 = .ok (.iaload, 1) := by decide +kernel
theorem dX9_isOutdone_21 : decode cX9_isOutdone 21 = .ok (.iadd, 1) := by decide +kernel
theorem dX9_isOutdone_22 : decode cX9_isOutdone 22 = .ok (.istore_n 3, 1) := by decide +kernel
theorem dX9_isOutdone_23 : decode cX9_isOutdone 23 = .ok (.iload_n 3, 1) := by decide +kernel
theorem dX9_isOutdone_24 : decode cX9_isOutdone 24 = .ok (.iconst 5, 1) := by decide +kernel
theorem dX9_isOutdone_25 : decode cX9_isOutdone 25 = .ok (.imul, 1) := by decide +kernel
theorem dX9_isOutdone_26 : decode cX9_isOutdone 26 = .ok (.aload_n 2, 1) := by decide +kernel
theorem dX9_isOutdone_27 : decode cX9_isOutdone 27 = .ok (.iconst 3, 1) := by decide +kernel
theorem dX9_isOutdone_28 : decode cX9_isOutdone 28 = .ok (.iaload, 1) := by decide +kernel
theorem dX9_isOutdone_29 : decode cX9_isOutdone 29 = .ok (.iadd, 1) := by decide +kernel
theorem dX9_isOutdone_30 : decode cX9_isOutdone 30 = .ok (.iconst 3, 1) := by decide +kernel
theorem dX9_isOutdone_31 : decode cX9_isOutdone 31 = .ok (.imul, 1) := by decide +kernel
theorem dX9_isOutdone_32 : decode cX9_isOutdone 32 = .ok (.aload_n 0, 1) := by decide +kernel
theorem dX9_isOutdone_33 : decode cX9_isOutdone 33 = .ok (.getfield 48, 3) := by decide +kernel
theorem dX9_isOutdone_36 : decode cX9_isOutdone 36 = .ok (.iload_n 1, 1) := by decide +kernel
theorem dX9_isOutdone_37 : decode cX9_isOutdone 37 = .ok (.iaload, 1) := by decide +kernel
theorem dX9_isOutdone_38 : decode cX9_isOutdone 38 = .ok (.iadd, 1) := by decide +kernel
theorem dX9_isOutdone_39 : decode cX9_isOutdone 39 = .ok (.istore_n 3, 1) := by decide +kernel
theorem dX9_isOutdone_40 : decode cX9_isOutdone 40 = .ok (.aload_n 0, 1) := by decide +kernel
theorem dX9_isOutdone_41 : decode cX9_isOutdone 41 = .ok (.getfield 57, 3) := by decide +kernel
theorem dX9_isOutdone_44 : decode cX9_isOutdone 44 = .ok (.iload_n 3, 1) := by decide +kernel
theorem dX9_isOutdone_45 : decode cX9_isOutdone 45 = .ok (.aload_n 0, 1) := by decide +kernel
theorem dX9_isOutdone_46 : decode cX9_isOutdone 46 = .ok (.getfield 42, 3) := by decide +kernel
theorem dX9_isOutdone_49 : decode cX9_isOutdone 49 = .ok (.iload_n 1, 1) := by decide +kernel
theorem dX9_isOutdone_50 : decode cX9_isOutdone 50 = .ok (.iaload, 1) := by decide +kernel
theorem dX9_isOutdone_51 : decode cX9_isOutdone 51 = .ok (.aload_n 0, 1) := by decide +kernel
theorem dX9_isOutdone_52 : decode cX9_isOutdone 52 = .ok (.getfield 39, 3) := by decide +kernel
theorem dX9_isOutdone_55 : decode cX9_isOutdone 55 = .ok (.iload_n 1, 1) := by decide +kernel
theorem dX9_isOutdone_56 : decode cX9_isOutdone 56 = .ok (.iaload, 1) := by decide +kernel
theorem dX9_isOutdone_57 : decode cX9_isOutdone 57 = .ok (.invokevirtual 157, 3) := by decide +kernel
theorem dX9_isOutdone_60 : decode cX9_isOutdone 60 = .ok (.ifCond .ne 7, 3) := by decide +kernel
theorem dX9_isOutdone_63 : decode cX9_isOutdone 63 = .ok (.iconst 1, 1) := by decide +kernel
theorem dX9_isOutdone_64 : decode cX9_isOutdone 64 = .ok (.goto 4, 3) := by decide +kernel
theorem dX9_isOutdone_67 : decode cX9_isOutdone 67 = .ok (.iconst 0, 1) := by decide +kernel
theorem dX9_isOutdone_68 : decode cX9_isOutdone 68 = .ok (.ireturn, 1) := by decide +kernel
theorem dX9_keep_0 : decode cX9_keep 0 = .ok (.aload_n 0, 1) := by decide +kernel
theorem dX9_keep_1 : decode cX9_keep 1 = .ok (.iconst 1, 1) := by decide +kernel
theorem dX9_keep_2 : decode cX9_keep 2 = .ok (.putfield 88, 3) := by decide +kernel
theorem dX9_keep_5 : decode cX9_keep 5 = .ok (.aload_n 0, 1) := by decide +kernel
theorem dX9_keep_6 : decode cX9_keep 6 = .ok (.getfield 36, 3) := by decide +kernel
theorem dX9_keep_9 : decode cX9_keep 9 = .ok (.iconst 0, 1) := by decide +kernel
theorem dX9_keep_10 : decode cX9_keep 10 = .ok (.aload_n 0, 1) := by decide +kernel
theorem dX9_keep_11 : decode cX9_keep 11 = .ok (.getfield 61, 3) := by decide +kernel
theorem dX9_keep_14 : decode cX9_keep 14 = .ok (.iconst 0, 1) := by decide +kernel
theorem dX9_keep_15 : decode cX9_keep 15 = .ok (.bipush 9, 2) := by decide +kernel
theorem dX9_keep_17 : decode cX9_keep 17 = .ok (.invokestatic 161, 3) := by decide +kernel
theorem dX9_keep_20 : decode cX9_keep 20 = .ok (.aload_n 0, 1) := by decide +kernel
theorem dX9_keep_21 : decode cX9_keep 21 = .ok (.aload_n 0, 1) := by decide +kernel
theorem dX9_keep_22 : decode cX9_keep 22 = .ok (.getfield 42, 3) := by decide +kernel
theorem dX9_keep_25 : decode cX9_keep 25 = .ok (.bipush 9, 2) := by decide +kernel
theorem dX9_keep_27 : decode cX9_keep 27 = .ok (.iaload, 1) := by decide +kernel
theorem dX9_keep_28 : decode cX9_keep 28 = .ok (.putfield 91, 3) := by decide +kernel
theorem dX9_keep_31 : decode cX9_keep 31 = .ok (.aload_n 0, 1) := by decide +kernel
theorem dX9_keep_32 : decode cX9_keep 32 = .ok (.aload_n 0, 1) := by decide +kernel
theorem dX9_keep_33 : decode cX9_keep 33 = .ok (.getfield 39, 3) := by decide +kernel
theorem dX9_keep_36 : decode cX9_keep 36 = .ok (.bipush 9, 2) := by decide +kernel
theorem dX9_keep_38 : decode cX9_keep 38 = .ok (.iaload, 1) := by decide +kernel
theorem dX9_keep_39 : decode cX9_keep 39 = .ok (.putfield 94, 3) := by decide +kernel
theorem dX9_keep_42 : decode cX9_keep 42 = .ok (.return_, 1) := by decide +kernel
theorem dX9_wearOut_0 : decode cX9_wearOut 0 = .ok (.iconst 0, 1) := by decide +kernel
theorem dX9_wearOut_1 : decode cX9_wearOut 1 = .ok (.istore_n 1, 1) := by decide +kernel
theorem dX9_wearOut_2 : decode cX9_wearOut 2 = .ok (.iload_n 1, 1) := by decide +kernel
theorem dX9_wearOut_3 : decode cX9_wearOut 3 = .ok (.bipush 9, 2) := by decide +kernel
theorem dX9_wearOut_5 : decode cX9_wearOut 5 = .ok (.if_icmp .ge 58, 3) := by decide +kernel
theorem dX9_wearOut_8 : decode cX9_wearOut 8 = .ok (.iconst 0, 1) := by decide +kernel
theorem dX9_wearOut_9 : decode cX9_wearOut 9 = .ok (.istore_n 2, 1) := by decide +kernel
theorem dX9_wearOut_10 : decode cX9_wearOut 10 = .ok (.iload_n 2, 1) := by decide +kernel
theorem dX9_wearOut_11 : decode cX9_wearOut 11 = .ok (.iconst 3, 1) := by decide +kernel
theorem dX9_wearOut_12 : decode cX9_wearOut 12 = .ok (.if_icmp .ge 45, 3) := by decide +kernel
theorem dX9_wearOut_15 : decode cX9_wearOut 15 = .ok (.aload_n 0, 1) := by decide +kernel
theorem dX9_wearOut_16 : decode cX9_wearOut 16 = .ok (.getfield 11, 3) := by decide +kernel
theorem dX9_wearOut_19 : decode cX9_wearOut 19 = .ok (.iload_n 2, 1) := by decide +kernel
theorem dX9_wearOut_20 : decode cX9_wearOut 20 = .ok (.aaload, 1) := by decide +kernel
theorem dX9_wearOut_21 : decode cX9_wearOut 21 = .ok (.ifnull 30, 3) := by decide +kernel
theorem dX9_wearOut_24 : decode cX9_wearOut 24 = .ok (.aload_n 0, 1) := by decide +kernel
theorem dX9_wearOut_25 : decode cX9_wearOut 25 = .ok (.getfield 11, 3) := by decide +kernel
theorem dX9_wearOut_28 : decode cX9_wearOut 28 = .ok (.iload_n 2, 1) := by decide +kernel
theorem dX9_wearOut_29 : decode cX9_wearOut 29 = .ok (.aaload, 1) := by decide +kernel
theorem dX9_wearOut_30 : decode cX9_wearOut 30 = .ok (.dup, 1) := by decide +kernel
theorem dX9_wearOut_31 : decode cX9_wearOut 31 = .ok (.getfield 123, 3) := by decide +kernel
theorem dX9_wearOut_34 : decode cX9_wearOut 34 = .ok (.aload_n 0, 1) := by decide +kernel
theorem dX9_wearOut_35 : decode cX9_wearOut 35 = .ok (.getfield 29, 3) := by decide +kernel
theorem dX9_wearOut_38 : decode cX9_wearOut 38 = .ok (.aload_n 0, 1) := by decide +kernel
theorem dX9_wearOut_39 : decode cX9_wearOut 39 = .ok (.getfield 61, 3) := by decide +kernel
theorem dX9_wearOut_42 : decode cX9_wearOut 42 = .ok (.iload_n 1, 1) := by decide +kernel
theorem dX9_wearOut_43 : decode cX9_wearOut 43 = .ok (.iaload, 1) := by decide +kernel
theorem dX9_wearOut_44 : decode cX9_wearOut 44 = .ok (.aaload, 1) := by decide +kernel
theorem dX9_wearOut_45 : decode cX9_wearOut 45 = .ok (.iload_n 2, 1) := by decide +kernel
theorem dX9_wearOut_46 : decode cX9_wearOut 46 = .ok (.iaload, 1) := by decide +kernel
theorem dX9_wearOut_47 : decode cX9_wearOut 47 = .ok (.isub, 1) := by decide +kernel
theorem dX9_wearOut_48 : decode cX9_wearOut 48 = .ok (.putfield 123, 3) := by decide +kernel
theorem dX9_wearOut_51 : decode cX9_wearOut 51 = .ok (.iinc 2 1, 3) := by decide +kernel
theorem dX9_wearOut_54 : decode cX9_wearOut 54 = .ok (.goto (-44), 3) := by decide +kernel
theorem dX9_wearOut_57 : decode cX9_wearOut 57 = .ok (.iinc 1 1, 3) := by decide +kernel
theorem dX9_wearOut_60 : decode cX9_wearOut 60 = .ok (.goto (-58), 3) := by decide +kernel
theorem dX9_wearOut_63 : decode cX9_wearOut 63 = .ok (.return_, 1) := by decide +kernel
set_option maxRecDepth 20000 in
theorem ggX10_init_X7_init : GoodIn wsX10_init wsX7_init := goodIn_r _ [28, 29, 2, 3, 4, 30, 31, 67, 68, 69] (by decide +kernel) (by decide +kernel)
set_option maxRecDepth 20000 in
theorem gX10_init_X7_init_n26 : GoodIn wsX10_init (wsX7_init) := ggX10_init_X7_init
set_option maxRecDepth 20000 in
theorem ggX10_init_X3_init : GoodIn wsX10_init wsX3_init := goodIn_r _ [33, 34, 2, 3, 4, 35, 36, 70, 71] (by decide +kernel) (by decide +kernel)
set_option maxRecDepth 20000 in
theorem gX10_init_X3_init_n33 : GoodIn wsX10_init (wsX3_init) := ggX10_init_X3_init
set_option maxRecDepth 20000 in
theorem ggX10_init_X2_init : GoodIn wsX10_init wsX2_init := goodIn_r _ [39, 40, 2, 3, 41, 4, 42, 43, 44, 45, 46, 47, 48, 72, 73, 74, 75, 76] (by decide +kernel) (by decide +kernel)
set_option maxRecDepth 20000 in
theorem gX10_init_X2_init : GoodIn wsX10_init (wsX2_init) := ggX10_init_X2_init
set_option maxRecDepth 20000 in
theorem ggX10_init_X1_init : GoodIn wsX10_init wsX1_init := goodIn_r _ [50, 51, 2, 3, 4, 52, 53, 54, 77, 78, 79, 80, 81, 82] (by decide +kernel) (by decide +kernel)
set_option maxRecDepth 20000 in
theorem gX10_init_X1_init_n47 : GoodIn wsX10_init (wsX1_init) := ggX10_init_X1_init
set_option maxRecDepth 20000 in
theorem ggX10_init_X5_init : GoodIn wsX10_init wsX5_init := goodIn_r _ [56, 57, 2, 3] (by decide +kernel) (by decide +kernel)
set_option maxRecDepth 20000 in
theorem gX10_init_X5_init_n52 : GoodIn wsX10_init (wsX5_init) := ggX10_init_X5_init
theorem dX10_init_0 : decode cX10_init 0 = .ok (.aload_n 0, 1) := by decide +kernel
theorem dX10_init_1 : decode cX10_init 1 = .ok (.invokespecial 3, 3) := by decide +kernel
theorem dX10_init_4 : decode cX10_init 4 = .ok (.aload_n 0, 1) := by decide +kernel
theorem dX10_init_5 : decode cX10_init 5 = .ok (.iconst 5, 1) := by decide +kernel
theorem dX10_init_6 : decode cX10_init 6 = .ok (.newarray .int, 2) := by decide +kernel
theorem dX10_init_8 : decode cX10_init 8 = .ok (.putfield 9, 3) := by decide +kernel
theorem dX10_init_11 : decode cX10_init 11 = .ok (.aload_n 0, 1) := by decide +kernel
theorem dX10_init_12 : decode cX10_init 12 = .ok (.iconst 5, 1) := by decide +kernel
theorem dX10_init_13 : decode cX10_init 13 = .ok (.newarray .int, 2) := by decide +kernel
theorem dX10_init_15 : decode cX10_init 15 = .ok (.putfield 15, 3) := by decide +kernel
theorem dX10_init_18 : decode cX10_init 18 = .ok (.aload_n 0, 1) := by decide +kernel
theorem dX10_init_19 : decode cX10_init 19 = .ok (.bipush 16, 2) := by decide +kernel
theorem dX10_init_21 : decode cX10_init 21 = .ok (.anewarray 18, 3) := by decide +kernel
theorem dX10_init_24 : decode cX10_init 24 = .ok (.putfield 20, 3) := by decide +kernel
theorem dX10_init_27 : decode cX10_init 27 = .ok (.aload_n 0, 1) := by decide +kernel
theorem dX10_init_28 : decode cX10_init 28 = .ok (.new 24, 3) := by decide +kernel
theorem dX10_init_31 : decode cX10_init 31 = .ok (.dup, 1) := by decide +kernel
theorem dX10_init_32 : decode cX10_init 32 = .ok (.invokespecial 26, 3) := by decide +kernel
theorem dX10_init_35 : decode cX10_init 35 = .ok (.putfield 27, 3) := by decide +kernel
theorem dX10_init_38 : decode cX10_init 38 = .ok (.aload_n 0, 1) := by decide +kernel
theorem dX10_init_39 : decode cX10_init 39 = .ok (.new 31, 3) := by decide +kernel
theorem dX10_init_42 : decode cX10_init 42 = .ok (.dup, 1) := by decide +kernel
theorem dX10_init_43 : decode cX10_init 43 = .ok (.invokespecial 33, 3) := by decide +kernel
theorem dX10_init_46 : decode cX10_init 46 = .ok (.putfield 34, 3) := by decide +kernel
theorem dX10_init_49 : decode cX10_init 49 = .ok (.aload_n 0, 1) := by decide +kernel
theorem dX10_init_50 : decode cX10_init 50 = .ok (.new 38, 3) := by decide +kernel
theorem dX10_init_53 : decode cX10_init 53 = .ok (.dup, 1) := by decide +kernel
theorem dX10_init_54 : decode cX10_init 54 = .ok (.invokespecial 40, 3) := by decide +kernel
theorem dX10_init_57 : decode cX10_init 57 = .ok (.putfield 41, 3) := by decide +kernel
theorem dX10_init_60 : decode cX10_init 60 = .ok (.aload_n 0, 1) := by decide +kernel
theorem dX10_init_61 : decode cX10_init 61 = .ok (.new 45, 3) := by decide +kernel
theorem dX10_init_64 : decode cX10_init 64 = .ok (.dup, 1) := by decide +kernel
theorem dX10_init_65 : decode cX10_init 65 = .ok (.invokespecial 47, 3) := by decide +kernel
theorem dX10_init_68 : decode cX10_init 68 = .ok (.putfield 48, 3) := by decide +kernel
theorem dX10_init_71 : decode cX10_init 71 = .ok (.iconst 0, 1) := by decide +kernel
theorem dX10_init_72 : decode cX10_init 72 = .ok (.istore_n 1, 1) := by decide +kernel
theorem dX10_init_73 : decode cX10_init 73 = .ok (.iload_n 1, 1) := by decide +kernel
theorem dX10_init_74 : decode cX10_init 74 = .ok (.bipush 16, 2) := by decide +kernel
theorem dX10_init_76 : decode cX10_init 76 = .ok (.if_icmp .ge 22, 3) := by decide +kernel
theorem dX10_init_79 : decode cX10_init 79 = .ok (.aload_n 0, 1) := by decide +kernel
theorem dX10_init_80 : decode cX10_init 80 = .ok (.getfield 20, 3) := by decide +kernel
theorem dX10_init_83 : decode cX10_init 83 = .ok (.iload_n 1, 1) := by decide +kernel
theorem dX10_init_84 : decode cX10_init 84 = .ok (.new 18, 3) := by decide +kernel
theorem dX10_init_87 : decode cX10_init 87 = .ok (.dup, 1) := by decide +kernel
theorem dX10_init_88 : decode cX10_init 88 = .ok (.invokespecial 52, 3) := by decide +kernel
theorem dX10_init_91 : decode cX10_init 91 = .ok (.aastore, 1) := by decide +kernel
theorem dX10_init_92 : decode cX10_init 92 = .ok (.iinc 1 1, 3) := by decide +kernel
theorem dX10_init_95 : decode cX10_init 95 = .ok (.goto (-22), 3) := by decide +kernel
theorem dX10_init_98 : decode cX10_init 98 = .ok (.return_, 1) := by decide +kernel
set_option maxRecDepth 20000 in
theorem ggX10_isPerson_X11_isWithin : GoodIn wsX10_isPerson wsX11_isWithin := goodIn_r _ [4] (by decide +kernel) (by decide +kernel)
set_option maxRecDepth 20000 in
theorem gX10_isPerson_X11_isWithin_n57 : GoodIn wsX10_isPerson (wsX11_isWithin) := ggX10_isPerson_X11_isWithin
theorem dX10_isPerson_0 : decode cX10_isPerson 0 = .ok (.iload_n 1, 1) := by decide +kernel
theorem dX10_isPerson_1 : decode cX10_isPerson 1 = .ok (.iconst 0, 1) := by decide +kernel
theorem dX10_isPerson_2 : decode cX10_isPerson 2 = .ok (.aload_n 0, 1) := by decide +kernel
theorem dX10_isPerson_3 : decode cX10_isPerson 3 = .ok (.getfield 53, 3) := by decide +kernel
theorem dX10_isPerson_6 : decode cX10_isPerson 6 = .ok (.iconst 1, 1) := by decide +kernel
theorem dX10_isPerson_7 : decode cX10_isPerson 7 = .ok (.isub, 1) := by decide +kernel
theorem dX10_isPerson_8 : decode cX10_isPerson 8 = .ok (.invokestatic 57, 3) := by decide +kernel
theorem dX10_isPerson_11 : decode cX10_isPerson 11 = .ok (.ireturn, 1) := by decide +kernel
set_option maxRecDepth 20000 in
theorem ggX10_isShoe_X11_isWithin : GoodIn wsX10_isShoe wsX11_isWithin := goodIn_r _ [4] (by decide +kernel) (by decide +kernel)
set_option maxRecDepth 20000 in
theorem gX10_isShoe_X11_isWithin_n57 : GoodIn wsX10_isShoe (wsX11_isWithin) := ggX10_isShoe_X11_isWithin
theorem dX10_isShoe_0 : decode cX10_isShoe 0 = .ok (.iload_n 1, 1) := by decide +kernel
theorem dX10_isShoe_1 : decode cX10_isShoe 1 = .ok (.iconst 0, 1) := by decide +kernel
theorem dX10_isShoe_2 : decode cX10_isShoe 2 = .ok (.aload_n 0, 1) := by decide +kernel
theorem dX10_isShoe_3 : decode cX10_isShoe 3 = .ok (.getfield 61, 3) := by decide +kernel
theorem dX10_isShoe_6 : decode cX10_isShoe 6 = .ok (.iconst 1, 1) := by decide +kernel
theorem dX10_isShoe_7 : decode cX10_isShoe 7 = .ok (.isub, 1) := by decide +kernel
theorem dX10_isShoe_8 : decode cX10_isShoe 8 = .ok (.invokestatic 57, 3) := by decide +kernel
theorem dX10_isShoe_11 : decode cX10_isShoe 11 = .ok (.ireturn, 1) := by decide +kernel
set_option maxRecDepth 20000 in
theorem ggX10_shoeOrNull_X10_isShoe : GoodIn wsX10_shoeOrNull wsX10_isShoe := goodIn_r _ [6, 7, 8, 9, 10, 11, 12, 13, 14, 15, 16, 17, 18, 19] (by decide +kernel) (by decide +kernel)
set_option maxRecDepth 20000 in
theorem gX10_shoeOrNull_X10_isShoe : GoodIn wsX10_shoeOrNull (wsV RX10 64 RX10 yX10_isShoe wsX10_isShoe) := goodIn_app (goodIn_of _ (by decide +kernel)) ggX10_shoeOrNull_X10_isShoe
theorem dX10_shoeOrNull_0 : decode cX10_shoeOrNull 0 = .ok (.aload_n 0, 1) := by decide +kernel
theorem dX10_shoeOrNull_1 : decode cX10_shoeOrNull 1 = .ok (.iload_n 1, 1) := by decide +kernel
theorem dX10_shoeOrNull_2 : decode cX10_shoeOrNull 2 = .ok (.invokevirtual 64, 3) := by decide +kernel
theorem dX10_shoeOrNull_5 : decode cX10_shoeOrNull 5 = .ok (.ifCond .eq 12, 3) := by decide +kernel
theorem dX10_shoeOrNull_8 : decode cX10_shoeOrNull 8 = .ok (.aload_n 0, 1) := by decide +kernel
theorem dX10_shoeOrNull_9 : decode cX10_shoeOrNull 9 = .ok (.getfield 20, 3) := by decide +kernel
theorem dX10_shoeOrNull_12 : decode cX10_shoeOrNull 12 = .ok (.iload_n 1, 1) := by decide +kernel
theorem dX10_shoeOrNull_13 : decode cX10_shoeOrNull 13 = .ok (.aaload, 1) := by decide +kernel
theorem dX10_shoeOrNull_14 : decode cX10_shoeOrNull 14 = .ok (.goto 4, 3) := by decide +kernel
theorem dX10_shoeOrNull_17 : decode cX10_shoeOrNull 17 = .ok (.aconst_null, 1) := by decide +kernel
theorem dX10_shoeOrNull_18 : decode cX10_shoeOrNull 18 = .ok (.areturn, 1) := by decide +kernel
theorem dX10_addPerson_0 : decode cX10_addPerson 0 = .ok (.aload_n 0, 1) := by decide +kernel
theorem dX10_addPerson_1 : decode cX10_addPerson 1 = .ok (.getfield 53, 3) := by decide +kernel
theorem dX10_addPerson_4 : decode cX10_addPerson 4 = .ok (.iconst 5, 1) := by decide +kernel
theorem dX10_addPerson_5 : decode cX10_addPerson 5 = .ok (.if_icmp .lt 6, 3) := by decide +kernel
theorem dX10_addPerson_8 : decode cX10_addPerson 8 = .ok (.bipush (-3), 2) := by decide +kernel
theorem dX10_addPerson_10 : decode cX10_addPerson 10 = .ok (.ireturn, 1) := by decide +kernel
theorem dX10_addPerson_11 : decode cX10_addPerson 11 = .ok (.aload_n 0, 1) := by decide +kernel
theorem dX10_addPerson_12 : decode cX10_addPerson 12 = .ok (.getfield 9, 3) := by decide +kernel
theorem dX10_addPerson_15 : decode cX10_addPerson 15 = .ok (.aload_n 0, 1) := by decide +kernel
theorem dX10_addPerson_16 : decode cX10_addPerson 16 = .ok (.getfield 53, 3) := by decide +kernel
theorem dX10_addPerson_19 : decode cX10_addPerson 19 = .ok (.iload_n 1, 1) := by decide +kernel
theorem dX10_addPerson_20 : decode cX10_addPerson 20 = .ok (.iastore, 1) := by decide +kernel
theorem dX10_addPerson_21 : decode cX10_addPerson 21 = .ok (.aload_n 0, 1) := by decide +kernel
theorem dX10_addPerson_22 : decode cX10_addPerson 22 = .ok (.getfield 15, 3) := by decide +kernel
theorem dX10_addPerson_25 : decode cX10_addPerson 25 = .ok (.aload_n 0, 1) := by decide +kernel
theorem dX10_addPerson_26 : decode cX10_addPerson 26 = .ok (.getfield 53, 3) := by decide +kernel
theorem dX10_addPerson_29 : decode cX10_addPerson 29 = .ok (.iload_n 2, 1) := by decide +kernel
theorem dX10_addPerson_30 : decode cX10_addPerson 30 = .ok (.iastore, 1) := by decide +kernel
theorem dX10_addPerson_31 : decode cX10_addPerson 31 = .ok (.aload_n 0, 1) := by decide +kernel
theorem dX10_addPerson_32 : decode cX10_addPerson 32 = .ok (.dup, 1) := by decide +kernel
theorem dX10_addPerson_33 : decode cX10_addPerson 33 = .ok (.getfield 53, 3) := by decide +kernel
theorem dX10_addPerson_36 : decode cX10_addPerson 36 = .ok (.iconst 1, 1) := by decide +kernel
theorem dX10_addPerson_37 : decode cX10_addPerson 37 = .ok (.iadd, 1) := by decide +kernel
theorem dX10_addPerson_38 : decode cX10_addPerson 38 = .ok (.putfield 53, 3) := by decide +kernel
theorem dX10_addPerson_41 : decode cX10_addPerson 41 = .ok (.aload_n 0, 1) := by decide +kernel
theorem dX10_addPerson_42 : decode cX10_addPerson 42 = .ok (.getfield 53, 3) := by decide +kernel
theorem dX10_addPerson_45 : decode cX10_addPerson 45 = .ok (.iconst 1, 1) := by decide +kernel
theorem dX10_addPerson_46 : decode cX10_addPerson 46 = .ok (.isub, 1) := by decide +kernel
theorem dX10_addPerson_47 : decode cX10_addPerson 47 = .ok (.ireturn, 1) := by decide +kernel
theorem dX10_addShoe_0 : decode cX10_addShoe 0 = .ok (.aload_n 0, 1) := by decide +kernel
theorem dX10_addShoe_1 : decode cX10_addShoe 1 = .ok (.getfield 61, 3) := by decide +kernel
theorem dX10_addShoe_4 : decode cX10_addShoe 4 = .ok (.bipush 16, 2) := by decide +kernel
theorem dX10_addShoe_6 : decode cX10_addShoe 6 = .ok (.if_icmp .lt 6, 3) := by decide +kernel
theorem dX10_addShoe_9 : decode cX10_addShoe 9 = .ok (.bipush (-3), 2) := by decide +kernel
theorem dX10_addShoe_11 : decode cX10_addShoe 11 = .ok (.ireturn, 1) := by decide +kernel
theorem dX10_addShoe_12 : decode cX10_addShoe 12 = .ok (.aload_n 0, 1) := by decide +kernel
theorem dX10_addShoe_13 : decode cX10_addShoe 13 = .ok (.getfield 20, 3) := by decide +kernel
theorem dX10_addShoe_16 : decode cX10_addShoe 16 = .ok (.aload_n 0, 1) := by decide +kernel
theorem dX10_addShoe_17 : decode cX10_addShoe 17 = .ok (.getfield 61, 3) := by decide +kernel
theorem dX10_addShoe_20 : decode cX10_addShoe 20 = .ok (.aaload, 1) := by decide +kernel
theorem dX10_addShoe_21 : decode cX10_addShoe 21 = .ok (.astore 5, 2) := by decide +kernel
theorem dX10_addShoe_23 : decode cX10_addShoe 23 = .ok (.aload 5, 2) := by decide +kernel
theorem dX10_addShoe_25 : decode cX10_addShoe 25 = .ok (.iload_n 1, 1) := by decide +kernel
theorem dX10_addShoe_26 : decode cX10_addShoe 26 = .ok (.putfield 68, 3) := by decide +kernel
theorem dX10_addShoe_29 : decode cX10_addShoe 29 = .ok (.aload 5, 2) := by decide +kernel
theorem dX10_addShoe_31 : decode cX10_addShoe 31 = .ok (.iload_n 2, 1) := by decide +kernel
theorem dX10_addShoe_32 : decode cX10_addShoe 32 = .ok (.putfield 71, 3) := by decide +kernel
theorem dX10_addShoe_35 : decode cX10_addShoe 35 = .ok (.aload 5, 2) := by decide +kernel
theorem dX10_addShoe_37 : decode cX10_addShoe 37 = .ok (.iload_n 3, 1) := by decide +kernel
theorem dX10_addShoe_38 : decode cX10_addShoe 38 = .ok (.putfield 74, 3) := by decide +kernel
theorem dX10_addShoe_41 : decode cX10_addShoe 41 = .ok (.aload 5, 2) := by decide +kernel
theorem dX10_addShoe_43 : decode cX10_addShoe 43 = .ok (.iload 4, 2) := by decide +kernel
theorem dX10_addShoe_45 : decode cX10_addShoe 45 = .ok (.putfield 77, 3) := by decide +kernel
theorem dX10_addShoe_48 : decode cX10_addShoe 48 = .ok (.aload 5, 2) := by decide +kernel
theorem dX10_addShoe_50 : decode cX10_addShoe 50 = .ok (.iconst 0, 1) := by decide +kernel
theorem dX10_addShoe_51 : decode cX10_addShoe 51 = .ok (.putfield 80, 3) := by decide +kernel
theorem dX10_addShoe_54 : decode cX10_addShoe 54 = .ok (.aload_n 0, 1) := by decide +kernel
theorem dX10_addShoe_55 : decode cX10_addShoe 55 = .ok (.dup, 1) := by decide +kernel
theorem dX10_addShoe_56 : decode cX10_addShoe 56 = .ok (.getfield 61, 3) := by decide +kernel
theorem dX10_addShoe_59 : decode cX10_addShoe 59 = .ok (.iconst 1, 1) := by decide +kernel
theorem dX10_addShoe_60 : decode cX10_addShoe 60 = .ok (.iadd, 1) := by decide +kernel
theorem dX10_addShoe_61 : decode cX10_addShoe 61 = .ok (.putfield 61, 3) := by decide +kernel
theorem dX10_addShoe_64 : decode cX10_addShoe 64 = .ok (.aload_n 0, 1) := by decide +kernel
theorem dX10_addShoe_65 : decode cX10_addShoe 65 = .ok (.getfield 61, 3) := by decide +kernel
theorem dX10_addShoe_68 : decode cX10_addShoe 68 = .ok (.iconst 1, 1) := by decide +kernel
theorem dX10_addShoe_69 : decode cX10_addShoe 69 = .ok (.isub, 1) := by decide +kernel
theorem dX10_addShoe_70 : decode cX10_addShoe 70 = .ok (.ireturn, 1) := by decide +kernel
theorem dX10_shoesOf_0 : decode cX10_shoesOf 0 = .ok (.iconst 0, 1) := by decide +kernel
theorem dX10_shoesOf_1 : decode cX10_shoesOf 1 = .ok (.istore_n 3, 1) := by decide +kernel
theorem dX10_shoesOf_2 : decode cX10_shoesOf 2 = .ok (.iconst 0, 1) := by decide +kernel
theorem dX10_shoesOf_3 : decode cX10_shoesOf 3 = .ok (.istore 4, 2) := by decide +kernel
theorem dX10_shoesOf_5 : decode cX10_shoesOf 5 = .ok (.iload 4, 2) := by decide +kernel
theorem dX10_shoesOf_7 : decode cX10_shoesOf 7 = .ok (.aload_n 0, 1) := by decide +kernel
theorem dX10_shoesOf_8 : decode cX10_shoesOf 8 = .ok (.getfield 61, 3) := by decide +kernel
theorem dX10_shoesOf_11 : decode cX10_shoesOf 11 = .ok (.if_icmp .ge 40, 3) := by decide +kernel
theorem dX10_shoesOf_14 : decode cX10_shoesOf 14 = .ok (.aload_n 0, 1) := by decide +kernel
theorem dX10_shoesOf_15 : decode cX10_shoesOf 15 = .ok (.getfield 20, 3) := by decide +kernel
theorem dX10_shoesOf_18 : decode cX10_shoesOf 18 = .ok (.iload 4, 2) := by decide +kernel
theorem dX10_shoesOf_20 : decode cX10_shoesOf 20 = .ok (.aaload, 1) := by decide +kernel
theorem dX10_shoesOf_21 : decode cX10_shoesOf 21 = .ok (.getfield 68, 3) := by decide +kernel
theorem dX10_shoesOf_24 : decode cX10_shoesOf 24 = .ok (.iload_n 1, 1) := by decide +kernel
theorem dX10_shoesOf_25 : decode cX10_shoesOf 25 = .ok (.if_icmp .ne 20, 3) := by decide +kernel
theorem dX10_shoesOf_28 : decode cX10_shoesOf 28 = .ok (.aload_n 0, 1) := by decide +kernel
theorem dX10_shoesOf_29 : decode cX10_shoesOf 29 = .ok (.getfield 20, 3) := by decide +kernel
theorem dX10_shoesOf_32 : decode cX10_shoesOf 32 = .ok (.iload 4, 2) := by decide +kernel
theorem dX10_shoesOf_34 : decode cX10_shoesOf 34 = .ok (.aaload, 1) := by decide +kernel
theorem dX10_shoesOf_35 : decode cX10_shoesOf 35 = .ok (.getfield 71, 3) := by decide +kernel
theorem dX10_shoesOf_38 : decode cX10_shoesOf 38 = .ok (.iload_n 2, 1) := by decide +kernel
theorem dX10_shoesOf_39 : decode cX10_shoesOf 39 = .ok (.if_icmp .ne 6, 3) := by decide +kernel
theorem dX10_shoesOf_42 : decode cX10_shoesOf 42 = .ok (.iinc 3 1, 3) := by decide +kernel
theorem dX10_shoesOf_45 : decode cX10_shoesOf 45 = .ok (.iinc 4 1, 3) := by decide +kernel
theorem dX10_shoesOf_48 : decode cX10_shoesOf 48 = .ok (.goto (-43), 3) := by decide +kernel
theorem dX10_shoesOf_51 : decode cX10_shoesOf 51 = .ok (.iload_n 3, 1) := by decide +kernel
theorem dX10_shoesOf_52 : decode cX10_shoesOf 52 = .ok (.ireturn, 1) := by decide +kernel
theorem dX10_stampedShoes_0 : decode cX10_stampedShoes 0 = .ok (.iconst 0, 1) := by decide +kernel
theorem dX10_stampedShoes_1 : decode cX10_stampedShoes 1 = .ok (.istore_n 1, 1) := by decide +kernel
theorem dX10_stampedShoes_2 : decode cX10_stampedShoes 2 = .ok (.iconst 0, 1) := by decide +kernel
theorem dX10_stampedShoes_3 : decode cX10_stampedShoes 3 = .ok (.istore_n 2, 1) := by decide +kernel
theorem dX10_stampedShoes_4 : decode cX10_stampedShoes 4 = .ok (.iload_n 2, 1) := by decide +kernel
theorem dX10_stampedShoes_5 : decode cX10_stampedShoes 5 = .ok (.aload_n 0, 1) := by decide +kernel
theorem dX10_stampedShoes_6 : decode cX10_stampedShoes 6 = .ok (.getfield 61, 3) := by decide +kernel
theorem dX10_stampedShoes_9 : decode cX10_stampedShoes 9 = .ok (.if_icmp .ge 24, 3) := by decide +kernel
theorem dX10_stampedShoes_12 : decode cX10_stampedShoes 12 = .ok (.aload_n 0, 1) := by decide +kernel
theorem dX10_stampedShoes_13 : decode cX10_stampedShoes 13 = .ok (.getfield 20, 3) := by decide +kernel
theorem dX10_stampedShoes_16 : decode cX10_stampedShoes 16 = .ok (.iload_n 2, 1) := by decide +kernel
theorem dX10_stampedShoes_17 : decode cX10_stampedShoes 17 = .ok (.aaload, 1) := by decide +kernel
theorem dX10_stampedShoes_18 : decode cX10_stampedShoes 18 = .ok (.getfield 80, 3) := by decide +kernel
theorem dX10_stampedShoes_21 : decode cX10_stampedShoes 21 = .ok (.ifCond .eq 6, 3) := by decide +kernel
theorem dX10_stampedShoes_24 : decode cX10_stampedShoes 24 = .ok (.iinc 1 1, 3) := by decide +kernel
theorem dX10_stampedShoes_27 : decode cX10_stampedShoes 27 = .ok (.iinc 2 1, 3) := by decide +kernel
theorem dX10_stampedShoes_30 : decode cX10_stampedShoes 30 = .ok (.goto (-26), 3) := by decide +kernel
theorem dX10_stampedShoes_33 : decode cX10_stampedShoes 33 = .ok (.iload_n 1, 1) := by decide +kernel
theorem dX10_stampedShoes_34 : decode cX10_stampedShoes 34 = .ok (.ireturn, 1) := by decide +kernel
theorem dX10_solesOfAll_0 : decode cX10_solesOfAll 0 = .ok (.iconst 0, 1) := by decide +kernel
theorem dX10_solesOfAll_1 : decode cX10_solesOfAll 1 = .ok (.istore_n 1, 1) := by decide +kernel
theorem dX10_solesOfAll_2 : decode cX10_solesOfAll 2 = .ok (.iconst 0, 1) := by decide +kernel
theorem dX10_solesOfAll_3 : decode cX10_solesOfAll 3 = .ok (.istore_n 2, 1) := by decide +kernel
theorem dX10_solesOfAll_4 : decode cX10_solesOfAll 4 = .ok (.iload_n 2, 1) := by decide +kernel
theorem dX10_solesOfAll_5 : decode cX10_solesOfAll 5 = .ok (.aload_n 0, 1) := by decide +kernel
theorem dX10_solesOfAll_6 : decode cX10_solesOfAll 6 = .ok (.getfield 61, 3) := by decide +kernel
theorem dX10_solesOfAll_9 : decode cX10_solesOfAll 9 = .ok (.if_icmp .ge 21, 3) := by decide +kernel
theorem dX10_solesOfAll_12 : decode cX10_solesOfAll 12 = .ok (.iload_n 1, 1) := by decide +kernel
theorem dX10_solesOfAll_13 : decode cX10_solesOfAll 13 = .ok (.aload_n 0, 1) := by decide +kernel
theorem dX10_solesOfAll_14 : decode cX10_solesOfAll 14 = .ok (.getfield 20, 3) := by decide +kernel
theorem dX10_solesOfAll_17 : decode cX10_solesOfAll 17 = .ok (.iload_n 2, 1) := by decide +kernel
theorem dX10_solesOfAll_18 : decode cX10_solesOfAll 18 = .ok (.aaload, 1) := by decide +kernel
theorem dX10_solesOfAll_19 : decode cX10_solesOfAll 19 = .ok (.getfield 77, 3) := by decide +kernel
theorem dX10_solesOfAll_22 : decode cX10_solesOfAll 22 = .ok (.iadd, 1) := by decide +kernel
theorem dX10_solesOfAll_23 : decode cX10_solesOfAll 23 = .ok (.istore_n 1, 1) := by decide +kernel
theorem dX10_solesOfAll_24 : decode cX10_solesOfAll 24 = .ok (.iinc 2 1, 3) := by decide +kernel
theorem dX10_solesOfAll_27 : decode cX10_solesOfAll 27 = .ok (.goto (-23), 3) := by decide +kernel
theorem dX10_solesOfAll_30 : decode cX10_solesOfAll 30 = .ok (.iload_n 1, 1) := by decide +kernel
theorem dX10_solesOfAll_31 : decode cX10_solesOfAll 31 = .ok (.ireturn, 1) := by decide +kernel
set_option maxRecDepth 20000 in
theorem ggX10_isGoingWith_X10_isShoeFor : GoodIn wsX10_isGoingWith wsX10_isShoeFor := goodIn_r _ [7, 8, 9, 10, 11, 12, 6, 13, 14, 15, 16, 17, 18, 19, 20, 21, 22, 23, 24, 25, 26, 30, 31, 32, 33, 34] (by decide +kernel) (by decide +kernel)
set_option maxRecDepth 20000 in
theorem gX10_isGoingWith_X10_isShoeFor : GoodIn wsX10_isGoingWith (wsV RX10 85 RX10 yX10_isShoeFor wsX10_isShoeFor) := goodIn_app (goodIn_of _ (by decide +kernel)) ggX10_isGoingWith_X10_isShoeFor
theorem dX10_isGoingWith_0 : decode cX10_isGoingWith 0 = .ok (.iload_n 1, 1) := by decide +kernel
theorem dX10_isGoingWith_1 : decode cX10_isGoingWith 1 = .ok (.tableswitch 158 0 3 #[31, 69, 114, 142], 31) := by decide +kernel
theorem dX10_isGoingWith_32 : decode cX10_isGoingWith 32 = .ok (.aload_n 0, 1) := by decide +kernel
theorem dX10_isGoingWith_33 : decode cX10_isGoingWith 33 = .ok (.iload_n 2, 1) := by decide +kernel
theorem dX10_isGoingWith_34 : decode cX10_isGoingWith 34 = .ok (.aload_n 0, 1) := by decide +kernel
theorem dX10_isGoingWith_35 : decode cX10_isGoingWith 35 = .ok (.getfield 27, 3) := by decide +kernel
theorem dX10_isGoingWith_38 : decode cX10_isGoingWith 38 = .ok (.getfield 84, 3) := by decide +kernel
theorem dX10_isGoingWith_41 : decode cX10_isGoingWith 41 = .ok (.invokevirtual 85, 3) := by decide +kernel
theorem dX10_isGoingWith_44 : decode cX10_isGoingWith 44 = .ok (.ifCond .eq 24, 3) := by decide +kernel
theorem dX10_isGoingWith_47 : decode cX10_isGoingWith 47 = .ok (.aload_n 0, 1) := by decide +kernel
theorem dX10_isGoingWith_48 : decode cX10_isGoingWith 48 = .ok (.iload_n 3, 1) := by decide +kernel
theorem dX10_isGoingWith_49 : decode cX10_isGoingWith 49 = .ok (.iconst 1, 1) := by decide +kernel
theorem dX10_isGoingWith_50 : decode cX10_isGoingWith 50 = .ok (.aload_n 0, 1) := by decide +kernel
theorem dX10_isGoingWith_51 : decode cX10_isGoingWith 51 = .ok (.getfield 27, 3) := by decide +kernel
theorem dX10_isGoingWith_54 : decode cX10_isGoingWith 54 = .ok (.getfield 84, 3) := by decide +kernel
theorem dX10_isGoingWith_57 : decode cX10_isGoingWith 57 = .ok (.isub, 1) := by decide +kernel
theorem dX10_isGoingWith_58 : decode cX10_isGoingWith 58 = .ok (.invokevirtual 85, 3) := by decide +kernel
theorem dX10_isGoingWith_61 : decode cX10_isGoingWith 61 = .ok (.ifCond .eq 7, 3) := by decide +kernel
theorem dX10_isGoingWith_64 : decode cX10_isGoingWith 64 = .ok (.iconst 1, 1) := by decide +kernel
theorem dX10_isGoingWith_65 : decode cX10_isGoingWith 65 = .ok (.goto 4, 3) := by decide +kernel
theorem dX10_isGoingWith_68 : decode cX10_isGoingWith 68 = .ok (.iconst 0, 1) := by decide +kernel
theorem dX10_isGoingWith_69 : decode cX10_isGoingWith 69 = .ok (.ireturn, 1) := by decide +kernel
theorem dX10_isGoingWith_70 : decode cX10_isGoingWith 70 = .ok (.iload_n 2, 1) := by decide +kernel
theorem dX10_isGoingWith_71 : decode cX10_isGoingWith 71 = .ok (.iload_n 3, 1) := by decide +kernel
theorem dX10_isGoingWith_72 : decode cX10_isGoingWith 72 = .ok (.if_icmp .eq 41, 3) := by decide +kernel
theorem dX10_isGoingWith_75 : decode cX10_isGoingWith 75 = .ok (.aload_n 0, 1) := by decide +kernel
theorem dX10_isGoingWith_76 : decode cX10_isGoingWith 76 = .ok (.iload_n 2, 1) := by decide +kernel
theorem dX10_isGoingWith_77 : decode cX10_isGoingWith 77 = .ok (.iconst 1, 1) := by decide +kernel
theorem dX10_isGoingWith_78 : decode cX10_isGoingWith 78 = .ok (.aload_n 0, 1) := by decide +kernel
theorem dX10_isGoingWith_79 : decode cX10_isGoingWith 79 = .ok (.getfield 27, 3) := by decide +kernel
theorem dX10_isGoingWith_82 : decode cX10_isGoingWith 82 = .ok (.getfield 84, 3) := by decide +kernel
theorem dX10_isGoingWith_85 : decode cX10_isGoingWith 85 = .ok (.isub, 1) := by decide +kernel
theorem dX10_isGoingWith_86 : decode cX10_isGoingWith 86 = .ok (.invokevirtual 85, 3) := by decide +kernel
theorem dX10_isGoingWith_89 : decode cX10_isGoingWith 89 = .ok (.ifCond .eq 24, 3) := by decide +kernel
theorem dX10_isGoingWith_92 : decode cX10_isGoingWith 92 = .ok (.aload_n 0, 1) := by decide +kernel
theorem dX10_isGoingWith_93 : decode cX10_isGoingWith 93 = .ok (.iload_n 3, 1) := by decide +kernel
theorem dX10_isGoingWith_94 : decode cX10_isGoingWith 94 = .ok (.iconst 1, 1) := by decide +kernel
theorem dX10_isGoingWith_95 : decode cX10_isGoingWith 95 = .ok (.aload_n 0, 1) := by decide +kernel
theorem dX10_isGoingWith_96 : decode cX10_isGoingWith 96 = .ok (.getfield 27, 3) := by decide +kernel
theorem dX10_isGoingWith_99 : decode cX10_isGoingWith 99 = .ok (.getfield 84, 3) := by decide +kernel
theorem dX10_isGoingWith_102 : decode cX10_isGoingWith 102 = .ok (.isub, 1) := by decide +kernel
theorem dX10_isGoingWith_103 : decode cX10_isGoingWith 103 = .ok (.invokevirtual 85, 3) := by decide +kernel
theorem dX10_isGoingWith_106 : decode cX10_isGoingWith 106 = .ok (.ifCond .eq 7, 3) := by decide +kernel
theorem dX10_isGoingWith_109 : decode cX10_isGoingWith 109 = .ok (.iconst 1, 1) := by decide +kernel
theorem dX10_isGoingWith_110 : decode cX10_isGoingWith 110 = .ok (.goto 4, 3) := by decide +kernel
theorem dX10_isGoingWith_113 : decode cX10_isGoingWith 113 = .ok (.iconst 0, 1) := by decide +kernel
theorem dX10_isGoingWith_114 : decode cX10_isGoingWith 114 = .ok (.ireturn, 1) := by decide +kernel
theorem dX10_isGoingWith_115 : decode cX10_isGoingWith 115 = .ok (.aload_n 0, 1) := by decide +kernel
theorem dX10_isGoingWith_116 : decode cX10_isGoingWith 116 = .ok (.iload_n 2, 1) := by decide +kernel
theorem dX10_isGoingWith_117 : decode cX10_isGoingWith 117 = .ok (.iconst 1, 1) := by decide +kernel
theorem dX10_isGoingWith_118 : decode cX10_isGoingWith 118 = .ok (.aload_n 0, 1) := by decide +kernel
theorem dX10_isGoingWith_119 : decode cX10_isGoingWith 119 = .ok (.getfield 27, 3) := by decide +kernel
theorem dX10_isGoingWith_122 : decode cX10_isGoingWith 122 = .ok (.getfield 84, 3) := by decide +kernel
theorem dX10_isGoingWith_125 : decode cX10_isGoingWith 125 = .ok (.isub, 1) := by decide +kernel
theorem dX10_isGoingWith_126 : decode cX10_isGoingWith 126 = .ok (.invokevirtual 85, 3) := by decide +kernel
theorem dX10_isGoingWith_129 : decode cX10_isGoingWith 129 = .ok (.ifCond .eq 12, 3) := by decide +kernel
theorem dX10_isGoingWith_132 : decode cX10_isGoingWith 132 = .ok (.iload_n 3, 1) := by decide +kernel
theorem dX10_isGoingWith_133 : decode cX10_isGoingWith 133 = .ok (.iconst (-1), 1) := by decide +kernel
theorem dX10_isGoingWith_134 : decode cX10_isGoingWith 134 = .ok (.if_icmp .ne 7, 3) := by decide +kernel
theorem dX10_isGoingWith_137 : decode cX10_isGoingWith 137 = .ok (.iconst 1, 1) := by decide +kernel
theorem dX10_isGoingWith_138 : decode cX10_isGoingWith 138 = .ok (.goto 4, 3) := by decide +kernel
theorem dX10_isGoingWith_141 : decode cX10_isGoingWith 141 = .ok (.iconst 0, 1) := by decide +kernel
theorem dX10_isGoingWith_142 : decode cX10_isGoingWith 142 = .ok (.ireturn, 1) := by decide +kernel
theorem dX10_isGoingWith_143 : decode cX10_isGoingWith 143 = .ok (.iload_n 2, 1) := by decide +kernel
theorem dX10_isGoingWith_144 : decode cX10_isGoingWith 144 = .ok (.iconst (-1), 1) := by decide +kernel
theorem dX10_isGoingWith_145 : decode cX10_isGoingWith 145 = .ok (.if_icmp .ne 12, 3) := by decide +kernel
theorem dX10_isGoingWith_148 : decode cX10_isGoingWith 148 = .ok (.iload_n 3, 1) := by decide +kernel
theorem dX10_isGoingWith_149 : decode cX10_isGoingWith 149 = .ok (.iconst (-1), 1) := by decide +kernel
theorem dX10_isGoingWith_150 : decode cX10_isGoingWith 150 = .ok (.if_icmp .ne 7, 3) := by decide +kernel
theorem dX10_isGoingWith_153 : decode cX10_isGoingWith 153 = .ok (.iconst 1, 1) := by decide +kernel
theorem dX10_isGoingWith_154 : decode cX10_isGoingWith 154 = .ok (.goto 4, 3) := by decide +kernel
theorem dX10_isGoingWith_157 : decode cX10_isGoingWith 157 = .ok (.iconst 0, 1) := by decide +kernel
theorem dX10_isGoingWith_158 : decode cX10_isGoingWith 158 = .ok (.ireturn, 1) := by decide +kernel
theorem dX10_isGoingWith_159 : decode cX10_isGoingWith 159 = .ok (.iconst 0, 1) := by decide +kernel
theorem dX10_isGoingWith_160 : decode cX10_isGoingWith 160 = .ok (.ireturn, 1) := by decide +kernel
set_option maxRecDepth 20000 in
theorem ggX10_isShoeFor_X10_isShoe : GoodIn wsX10_isShoeFor wsX10_isShoe := goodIn_r _ [7, 8, 9, 10, 11, 12, 13, 14, 15, 16, 17, 18, 19, 20] (by decide +kernel) (by decide +kernel)
set_option maxRecDepth 20000 in
theorem gX10_isShoeFor_X10_isShoe : GoodIn wsX10_isShoeFor (wsV RX10 64 RX10 yX10_isShoe wsX10_isShoe) := goodIn_app (goodIn_of _ (by decide +kernel)) ggX10_isShoeFor_X10_isShoe
theorem dX10_isShoeFor_0 : decode cX10_isShoeFor 0 = .ok (.aload_n 0, 1) := by decide +kernel
theorem dX10_isShoeFor_1 : decode cX10_isShoeFor 1 = .ok (.iload_n 1, 1) := by decide +kernel
theorem dX10_isShoeFor_2 : decode cX10_isShoeFor 2 = .ok (.invokevirtual 64, 3) := by decide +kernel
theorem dX10_isShoeFor_5 : decode cX10_isShoeFor 5 = .ok (.ifCond .eq 20, 3) := by decide +kernel
theorem dX10_isShoeFor_8 : decode cX10_isShoeFor 8 = .ok (.aload_n 0, 1) := by decide +kernel
theorem dX10_isShoeFor_9 : decode cX10_isShoeFor 9 = .ok (.getfield 20, 3) := by decide +kernel
theorem dX10_isShoeFor_12 : decode cX10_isShoeFor 12 = .ok (.iload_n 1, 1) := by decide +kernel
theorem dX10_isShoeFor_13 : decode cX10_isShoeFor 13 = .ok (.aaload, 1) := by decide +kernel
theorem dX10_isShoeFor_14 : decode cX10_isShoeFor 14 = .ok (.getfield 71, 3) := by decide +kernel
theorem dX10_isShoeFor_17 : decode cX10_isShoeFor 17 = .ok (.iload_n 2, 1) := by decide +kernel
theorem dX10_isShoeFor_18 : decode cX10_isShoeFor 18 = .ok (.if_icmp .ne 7, 3) := by decide +kernel
theorem dX10_isShoeFor_21 : decode cX10_isShoeFor 21 = .ok (.iconst 1, 1) := by decide +kernel
theorem dX10_isShoeFor_22 : decode cX10_isShoeFor 22 = .ok (.goto 4, 3) := by decide +kernel
theorem dX10_isShoeFor_25 : decode cX10_isShoeFor 25 = .ok (.iconst 0, 1) := by decide +kernel
theorem dX10_isShoeFor_26 : decode cX10_isShoeFor 26 = .ok (.ireturn, 1) := by decide +kernel
set_option maxRecDepth 20000 in
theorem ggX10_areWorn_X10_isNoneOrHis : GoodIn wsX10_areWorn wsX10_isNoneOrHis := goodIn_r _ [8, 9, 10, 11, 12, 13, 7, 14, 15, 16, 17, 18, 19, 20, 21, 22, 23, 24, 25, 26, 27, 28, 29, 30, 31, 32, 36, 37, 38, 39, 40] (by decide +kernel) (by decide +kernel)
set_option maxRecDepth 20000 in
theorem gX10_areWorn_X10_isNoneOrHis : GoodIn wsX10_areWorn (wsV RX10 89 RX10 yX10_isNoneOrHis wsX10_isNoneOrHis) := goodIn_app (goodIn_of _ (by decide +kernel)) ggX10_areWorn_X10_isNoneOrHis
theorem dX10_areWorn_0 : decode cX10_areWorn 0 = .ok (.aload_n 0, 1) := by decide +kernel
theorem dX10_areWorn_1 : decode cX10_areWorn 1 = .ok (.getfield 15, 3) := by decide +kernel
theorem dX10_areWorn_4 : decode cX10_areWorn 4 = .ok (.iload_n 1, 1) := by decide +kernel
theorem dX10_areWorn_5 : decode cX10_areWorn 5 = .ok (.iaload, 1) := by decide +kernel
theorem dX10_areWorn_6 : decode cX10_areWorn 6 = .ok (.ifCond .eq 37, 3) := by decide +kernel
theorem dX10_areWorn_9 : decode cX10_areWorn 9 = .ok (.iload_n 2, 1) := by decide +kernel
theorem dX10_areWorn_10 : decode cX10_areWorn 10 = .ok (.iconst (-1), 1) := by decide +kernel
theorem dX10_areWorn_11 : decode cX10_areWorn 11 = .ok (.if_icmp .ne 30, 3) := by decide +kernel
theorem dX10_areWorn_14 : decode cX10_areWorn 14 = .ok (.iload 4, 2) := by decide +kernel
theorem dX10_areWorn_16 : decode cX10_areWorn 16 = .ok (.iconst (-1), 1) := by decide +kernel
theorem dX10_areWorn_17 : decode cX10_areWorn 17 = .ok (.if_icmp .ne 24, 3) := by decide +kernel
theorem dX10_areWorn_20 : decode cX10_areWorn 20 = .ok (.aload_n 0, 1) := by decide +kernel
theorem dX10_areWorn_21 : decode cX10_areWorn 21 = .ok (.iload_n 3, 1) := by decide +kernel
theorem dX10_areWorn_22 : decode cX10_areWorn 22 = .ok (.iload_n 1, 1) := by decide +kernel
theorem dX10_areWorn_23 : decode cX10_areWorn 23 = .ok (.aload_n 0, 1) := by decide +kernel
theorem dX10_areWorn_24 : decode cX10_areWorn 24 = .ok (.getfield 15, 3) := by decide +kernel
theorem dX10_areWorn_27 : decode cX10_areWorn 27 = .ok (.iload_n 1, 1) := by decide +kernel
theorem dX10_areWorn_28 : decode cX10_areWorn 28 = .ok (.iaload, 1) := by decide +kernel
theorem dX10_areWorn_29 : decode cX10_areWorn 29 = .ok (.iconst 1, 1) := by decide +kernel
theorem dX10_areWorn_30 : decode cX10_areWorn 30 = .ok (.isub, 1) := by decide +kernel
theorem dX10_areWorn_31 : decode cX10_areWorn 31 = .ok (.invokevirtual 89, 3) := by decide +kernel
theorem dX10_areWorn_34 : decode cX10_areWorn 34 = .ok (.ifCond .eq 7, 3) := by decide +kernel
theorem dX10_areWorn_37 : decode cX10_areWorn 37 = .ok (.iconst 1, 1) := by decide +kernel
theorem dX10_areWorn_38 : decode cX10_areWorn 38 = .ok (.goto 4, 3) := by decide +kernel
theorem dX10_areWorn_41 : decode cX10_areWorn 41 = .ok (.iconst 0, 1) := by decide +kernel
theorem dX10_areWorn_42 : decode cX10_areWorn 42 = .ok (.ireturn, 1) := by decide +kernel
theorem dX10_areWorn_43 : decode cX10_areWorn 43 = .ok (.iload_n 3, 1) := by decide +kernel
theorem dX10_areWorn_44 : decode cX10_areWorn 44 = .ok (.iconst (-1), 1) := by decide +kernel
theorem dX10_areWorn_45 : decode cX10_areWorn 45 = .ok (.if_icmp .eq 13, 3) := by decide +kernel
theorem dX10_areWorn_48 : decode cX10_areWorn 48 = .ok (.iload_n 3, 1) := by decide +kernel
theorem dX10_areWorn_49 : decode cX10_areWorn 49 = .ok (.iload 4, 2) := by decide +kernel
theorem dX10_areWorn_51 : decode cX10_areWorn 51 = .ok (.if_icmp .ne 7, 3) := by decide +kernel
theorem dX10_areWorn_54 : decode cX10_areWorn 54 = .ok (.iconst 1, 1) := by decide +kernel
theorem dX10_areWorn_55 : decode cX10_areWorn 55 = .ok (.goto 4, 3) := by decide +kernel
theorem dX10_areWorn_58 : decode cX10_areWorn 58 = .ok (.iconst 0, 1) := by decide +kernel
theorem dX10_areWorn_59 : decode cX10_areWorn 59 = .ok (.istore 5, 2) := by decide +kernel
theorem dX10_areWorn_61 : decode cX10_areWorn 61 = .ok (.iload 5, 2) := by decide +kernel
theorem dX10_areWorn_63 : decode cX10_areWorn 63 = .ok (.ifCond .ne 60, 3) := by decide +kernel
theorem dX10_areWorn_66 : decode cX10_areWorn 66 = .ok (.aload_n 0, 1) := by decide +kernel
theorem dX10_areWorn_67 : decode cX10_areWorn 67 = .ok (.iload_n 2, 1) := by decide +kernel
theorem dX10_areWorn_68 : decode cX10_areWorn 68 = .ok (.iload_n 1, 1) := by decide +kernel
theorem dX10_areWorn_69 : decode cX10_areWorn 69 = .ok (.aload_n 0, 1) := by decide +kernel
theorem dX10_areWorn_70 : decode cX10_areWorn 70 = .ok (.getfield 27, 3) := by decide +kernel
theorem dX10_areWorn_73 : decode cX10_areWorn 73 = .ok (.getfield 84, 3) := by decide +kernel
theorem dX10_areWorn_76 : decode cX10_areWorn 76 = .ok (.invokevirtual 89, 3) := by decide +kernel
theorem dX10_areWorn_79 : decode cX10_areWorn 79 = .ok (.ifCond .eq 44, 3) := by decide +kernel
theorem dX10_areWorn_82 : decode cX10_areWorn 82 = .ok (.aload_n 0, 1) := by decide +kernel
theorem dX10_areWorn_83 : decode cX10_areWorn 83 = .ok (.iload_n 3, 1) := by decide +kernel
theorem dX10_areWorn_84 : decode cX10_areWorn 84 = .ok (.iload_n 1, 1) := by decide +kernel
theorem dX10_areWorn_85 : decode cX10_areWorn 85 = .ok (.iconst 1, 1) := by decide +kernel
theorem dX10_areWorn_86 : decode cX10_areWorn 86 = .ok (.aload_n 0, 1) := by decide +kernel
theorem dX10_areWorn_87 : decode cX10_areWorn 87 = .ok (.getfield 27, 3) := by decide +kernel
theorem dX10_areWorn_90 : decode cX10_areWorn 90 = .ok (.getfield 84, 3) := by decide +kernel
theorem dX10_areWorn_93 : decode cX10_areWorn 93 = .ok (.isub, 1) := by decide +kernel
theorem dX10_areWorn_94 : decode cX10_areWorn 94 = .ok (.invokevirtual 89, 3) := by decide +kernel
theorem dX10_areWorn_97 : decode cX10_areWorn 97 = .ok (.ifCond .eq 26, 3) := by decide +kernel
theorem dX10_areWorn_100 : decode cX10_areWorn 100 = .ok (.aload_n 0, 1) := by decide +kernel
theorem dX10_areWorn_101 : decode cX10_areWorn 101 = .ok (.iload 4, 2) := by decide +kernel
theorem dX10_areWorn_103 : decode cX10_areWorn 103 = .ok (.iload_n 1, 1) := by decide +kernel
theorem dX10_areWorn_104 : decode cX10_areWorn 104 = .ok (.iconst 1, 1) := by decide +kernel
theorem dX10_areWorn_105 : decode cX10_areWorn 105 = .ok (.aload_n 0, 1) := by decide +kernel
theorem dX10_areWorn_106 : decode cX10_areWorn 106 = .ok (.getfield 27, 3) := by decide +kernel
theorem dX10_areWorn_109 : decode cX10_areWorn 109 = .ok (.getfield 84, 3) := by decide +kernel
theorem dX10_areWorn_112 : decode cX10_areWorn 112 = .ok (.isub, 1) := by decide +kernel
theorem dX10_areWorn_113 : decode cX10_areWorn 113 = .ok (.invokevirtual 89, 3) := by decide +kernel
theorem dX10_areWorn_116 : decode cX10_areWorn 116 = .ok (.ifCond .eq 7, 3) := by decide +kernel
theorem dX10_areWorn_119 : decode cX10_areWorn 119 = .ok (.iconst 1, 1) := by decide +kernel
theorem dX10_areWorn_120 : decode cX10_areWorn 120 = .ok (.goto 4, 3) := by decide +kernel
theorem dX10_areWorn_123 : decode cX10_areWorn 123 = .ok (.iconst 0, 1) := by decide +kernel
theorem dX10_areWorn_124 : decode cX10_areWorn 124 = .ok (.ireturn, 1) := by decide +kernel
set_option maxRecDepth 20000 in
theorem ggX10_isNoneOrHis_X10_isShoeFor : GoodIn wsX10_isNoneOrHis wsX10_isShoeFor := goodIn_r _ [7, 1, 8, 9, 10, 11, 6, 12, 13, 14, 15, 16, 17, 18, 19, 20, 21, 22, 23, 24, 25, 26, 27, 28, 29, 30] (by decide +kernel) (by decide +kernel)
set_option maxRecDepth 20000 in
theorem gX10_isNoneOrHis_X10_isShoeFor : GoodIn wsX10_isNoneOrHis (wsV RX10 85 RX10 yX10_isShoeFor wsX10_isShoeFor) := goodIn_app (goodIn_of _ (by decide +kernel)) ggX10_isNoneOrHis_X10_isShoeFor
theorem dX10_isNoneOrHis_0 : decode cX10_isNoneOrHis 0 = .ok (.iload_n 1, 1) := by decide +kernel
theorem dX10_isNoneOrHis_1 : decode cX10_isNoneOrHis 1 = .ok (.iconst (-1), 1) := by decide +kernel
theorem dX10_isNoneOrHis_2 : decode cX10_isNoneOrHis 2 = .ok (.if_icmp .eq 25, 3) := by decide +kernel
theorem dX10_isNoneOrHis_5 : decode cX10_isNoneOrHis 5 = .ok (.aload_n 0, 1) := by decide +kernel
theorem dX10_isNoneOrHis_6 : decode cX10_isNoneOrHis 6 = .ok (.iload_n 1, 1) := by decide +kernel
theorem dX10_isNoneOrHis_7 : decode cX10_isNoneOrHis 7 = .ok (.iload_n 3, 1) := by decide +kernel
theorem dX10_isNoneOrHis_8 : decode cX10_isNoneOrHis 8 = .ok (.invokevirtual 85, 3) := by decide +kernel
theorem dX10_isNoneOrHis_11 : decode cX10_isNoneOrHis 11 = .ok (.ifCond .eq 20, 3) := by decide +kernel
theorem dX10_isNoneOrHis_14 : decode cX10_isNoneOrHis 14 = .ok (.aload_n 0, 1) := by decide +kernel
theorem dX10_isNoneOrHis_15 : decode cX10_isNoneOrHis 15 = .ok (.getfield 20, 3) := by decide +kernel
theorem dX10_isNoneOrHis_18 : decode cX10_isNoneOrHis 18 = .ok (.iload_n 1, 1) := by decide +kernel
theorem dX10_isNoneOrHis_19 : decode cX10_isNoneOrHis 19 = .ok (.aaload, 1) := by decide +kernel
theorem dX10_isNoneOrHis_20 : decode cX10_isNoneOrHis 20 = .ok (.getfield 68, 3) := by decide +kernel
theorem dX10_isNoneOrHis_23 : decode cX10_isNoneOrHis 23 = .ok (.iload_n 2, 1) := by decide +kernel
theorem dX10_isNoneOrHis_24 : decode cX10_isNoneOrHis 24 = .ok (.if_icmp .ne 7, 3) := by decide +kernel
theorem dX10_isNoneOrHis_27 : decode cX10_isNoneOrHis 27 = .ok (.iconst 1, 1) := by decide +kernel
theorem dX10_isNoneOrHis_28 : decode cX10_isNoneOrHis 28 = .ok (.goto 4, 3) := by decide +kernel
theorem dX10_isNoneOrHis_31 : decode cX10_isNoneOrHis 31 = .ok (.iconst 0, 1) := by decide +kernel
theorem dX10_isNoneOrHis_32 : decode cX10_isNoneOrHis 32 = .ok (.ireturn, 1) := by decide +kernel
set_option maxRecDepth 20000 in
theorem ggX10_minutesOf_X5_delay : GoodIn wsX10_minutesOf wsX5_delay := goodIn_r _ [9, 10, 22, 23, 24, 25, 26] (by decide +kernel) (by decide +kernel)
set_option maxRecDepth 20000 in
theorem gX10_minutesOf_X5_delay : GoodIn wsX10_minutesOf (wsV RX10 101 RX5 yX5_delay wsX5_delay) := goodIn_app (goodIn_of _ (by decide +kernel)) ggX10_minutesOf_X5_delay
theorem dX10_minutesOf_0 : decode cX10_minutesOf 0 = .ok (.aload_n 0, 1) := by decide +kernel
theorem dX10_minutesOf_1 : decode cX10_minutesOf 1 = .ok (.getfield 34, 3) := by decide +kernel
theorem dX10_minutesOf_4 : decode cX10_minutesOf 4 = .ok (.getfield 92, 3) := by decide +kernel
theorem dX10_minutesOf_7 : decode cX10_minutesOf 7 = .ok (.iload_n 2, 1) := by decide +kernel
theorem dX10_minutesOf_8 : decode cX10_minutesOf 8 = .ok (.iaload, 1) := by decide +kernel
theorem dX10_minutesOf_9 : decode cX10_minutesOf 9 = .ok (.istore 5, 2) := by decide +kernel
theorem dX10_minutesOf_11 : decode cX10_minutesOf 11 = .ok (.getstatic 95, 3) := by decide +kernel
theorem dX10_minutesOf_14 : decode cX10_minutesOf 14 = .ok (.iload_n 1, 1) := by decide +kernel
theorem dX10_minutesOf_15 : decode cX10_minutesOf 15 = .ok (.iaload, 1) := by decide +kernel
theorem dX10_minutesOf_16 : decode cX10_minutesOf 16 = .ok (.getstatic 98, 3) := by decide +kernel
theorem dX10_minutesOf_19 : decode cX10_minutesOf 19 = .ok (.iload_n 1, 1) := by decide +kernel
theorem dX10_minutesOf_20 : decode cX10_minutesOf 20 = .ok (.iaload, 1) := by decide +kernel
theorem dX10_minutesOf_21 : decode cX10_minutesOf 21 = .ok (.iload 5, 2) := by decide +kernel
theorem dX10_minutesOf_23 : decode cX10_minutesOf 23 = .ok (.imul, 1) := by decide +kernel
theorem dX10_minutesOf_24 : decode cX10_minutesOf 24 = .ok (.iadd, 1) := by decide +kernel
theorem dX10_minutesOf_25 : decode cX10_minutesOf 25 = .ok (.istore 6, 2) := by decide +kernel
theorem dX10_minutesOf_27 : decode cX10_minutesOf 27 = .ok (.aload_n 3, 1) := by decide +kernel
theorem dX10_minutesOf_28 : decode cX10_minutesOf 28 = .ok (.ifnull 14, 3) := by decide +kernel
theorem dX10_minutesOf_31 : decode cX10_minutesOf 31 = .ok (.iload 6, 2) := by decide +kernel
theorem dX10_minutesOf_33 : decode cX10_minutesOf 33 = .ok (.aload_n 3, 1) := by decide +kernel
theorem dX10_minutesOf_34 : decode cX10_minutesOf 34 = .ok (.iload 5, 2) := by decide +kernel
theorem dX10_minutesOf_36 : decode cX10_minutesOf 36 = .ok (.invokevirtual 101, 3) := by decide +kernel
theorem dX10_minutesOf_39 : decode cX10_minutesOf 39 = .ok (.iadd, 1) := by decide +kernel
theorem dX10_minutesOf_40 : decode cX10_minutesOf 40 = .ok (.istore 6, 2) := by decide +kernel
theorem dX10_minutesOf_42 : decode cX10_minutesOf 42 = .ok (.aload 4, 2) := by decide +kernel
theorem dX10_minutesOf_44 : decode cX10_minutesOf 44 = .ok (.ifnull 15, 3) := by decide +kernel
theorem dX10_minutesOf_47 : decode cX10_minutesOf 47 = .ok (.iload 6, 2) := by decide +kernel
theorem dX10_minutesOf_49 : decode cX10_minutesOf 49 = .ok (.aload 4, 2) := by decide +kernel
theorem dX10_minutesOf_51 : decode cX10_minutesOf 51 = .ok (.iload 5, 2) := by decide +kernel
theorem dX10_minutesOf_53 : decode cX10_minutesOf 53 = .ok (.invokevirtual 101, 3) := by decide +kernel
theorem dX10_minutesOf_56 : decode cX10_minutesOf 56 = .ok (.iadd, 1) := by decide +kernel
theorem dX10_minutesOf_57 : decode cX10_minutesOf 57 = .ok (.istore 6, 2) := by decide +kernel
theorem dX10_minutesOf_59 : decode cX10_minutesOf 59 = .ok (.iload 6, 2) := by decide +kernel
theorem dX10_minutesOf_61 : decode cX10_minutesOf 61 = .ok (.ireturn, 1) := by decide +kernel
set_option maxRecDepth 20000 in
theorem ggX10_costOf_X7_costOf : GoodIn wsX10_costOf wsX7_costOf := goodIn_r _ [8, 9, 10, 11, 12, 13, 14, 26, 27, 28, 29, 30, 31, 32, 33] (by decide +kernel) (by decide +kernel)
set_option maxRecDepth 20000 in
theorem gX10_costOf_X7_costOf : GoodIn wsX10_costOf (wsV RX10 108 RX7 yX7_costOf wsX7_costOf) := goodIn_app (goodIn_of _ (by decide +kernel)) ggX10_costOf_X7_costOf
theorem dX10_costOf_0 : decode cX10_costOf 0 = .ok (.aload_n 0, 1) := by decide +kernel
theorem dX10_costOf_1 : decode cX10_costOf 1 = .ok (.getfield 27, 3) := by decide +kernel
theorem dX10_costOf_4 : decode cX10_costOf 4 = .ok (.aload_n 2, 1) := by decide +kernel
theorem dX10_costOf_5 : decode cX10_costOf 5 = .ok (.aload_n 0, 1) := by decide +kernel
theorem dX10_costOf_6 : decode cX10_costOf 6 = .ok (.getfield 34, 3) := by decide +kernel
theorem dX10_costOf_9 : decode cX10_costOf 9 = .ok (.getfield 105, 3) := by decide +kernel
theorem dX10_costOf_12 : decode cX10_costOf 12 = .ok (.iload_n 1, 1) := by decide +kernel
theorem dX10_costOf_13 : decode cX10_costOf 13 = .ok (.iaload, 1) := by decide +kernel
theorem dX10_costOf_14 : decode cX10_costOf 14 = .ok (.invokevirtual 108, 3) := by decide +kernel
theorem dX10_costOf_17 : decode cX10_costOf 17 = .ok (.aload_n 0, 1) := by decide +kernel
theorem dX10_costOf_18 : decode cX10_costOf 18 = .ok (.getfield 27, 3) := by decide +kernel
theorem dX10_costOf_21 : decode cX10_costOf 21 = .ok (.aload_n 3, 1) := by decide +kernel
theorem dX10_costOf_22 : decode cX10_costOf 22 = .ok (.aload_n 0, 1) := by decide +kernel
theorem dX10_costOf_23 : decode cX10_costOf 23 = .ok (.getfield 34, 3) := by decide +kernel
theorem dX10_costOf_26 : decode cX10_costOf 26 = .ok (.getfield 105, 3) := by decide +kernel
theorem dX10_costOf_29 : decode cX10_costOf 29 = .ok (.iload_n 1, 1) := by decide +kernel
theorem dX10_costOf_30 : decode cX10_costOf 30 = .ok (.iaload, 1) := by decide +kernel
theorem dX10_costOf_31 : decode cX10_costOf 31 = .ok (.invokevirtual 108, 3) := by decide +kernel
theorem dX10_costOf_34 : decode cX10_costOf 34 = .ok (.iadd, 1) := by decide +kernel
theorem dX10_costOf_35 : decode cX10_costOf 35 = .ok (.ireturn, 1) := by decide +kernel
set_option maxRecDepth 20000 in
theorem ggX10_pairsOf_X10_wearable : GoodIn wsX10_pairsOf wsX10_wearable := goodIn_r _ [9, 10, 11, 12, 13, 14, 15, 16, 17, 8, 18, 19, 20, 21, 22, 23, 24, 25, 26, 27, 28, 29, 30, 31, 32] (by decide +kernel) (by decide +kernel)
set_option maxRecDepth 20000 in
theorem gX10_pairsOf_X10_wearable : GoodIn wsX10_pairsOf (wsV RX10 112 RX10 yX10_wearable wsX10_wearable) := goodIn_app (goodIn_of _ (by decide +kernel)) ggX10_pairsOf_X10_wearable
theorem dX10_pairsOf_0 : decode cX10_pairsOf 0 = .ok (.iconst 0, 1) := by decide +kernel
theorem dX10_pairsOf_1 : decode cX10_pairsOf 1 = .ok (.istore_n 2, 1) := by decide +kernel
theorem dX10_pairsOf_2 : decode cX10_pairsOf 2 = .ok (.iconst 0, 1) := by decide +kernel
theorem dX10_pairsOf_3 : decode cX10_pairsOf 3 = .ok (.istore_n 3, 1) := by decide +kernel
theorem dX10_pairsOf_4 : decode cX10_pairsOf 4 = .ok (.iload_n 3, 1) := by decide +kernel
theorem dX10_pairsOf_5 : decode cX10_pairsOf 5 = .ok (.iconst 4, 1) := by decide +kernel
theorem dX10_pairsOf_6 : decode cX10_pairsOf 6 = .ok (.if_icmp .ge 29, 3) := by decide +kernel
theorem dX10_pairsOf_9 : decode cX10_pairsOf 9 = .ok (.iload_n 2, 1) := by decide +kernel
theorem dX10_pairsOf_10 : decode cX10_pairsOf 10 = .ok (.aload_n 0, 1) := by decide +kernel
theorem dX10_pairsOf_11 : decode cX10_pairsOf 11 = .ok (.iload_n 1, 1) := by decide +kernel
theorem dX10_pairsOf_12 : decode cX10_pairsOf 12 = .ok (.iconst 0, 1) := by decide +kernel
theorem dX10_pairsOf_13 : decode cX10_pairsOf 13 = .ok (.iload_n 3, 1) := by decide +kernel
theorem dX10_pairsOf_14 : decode cX10_pairsOf 14 = .ok (.invokevirtual 112, 3) := by decide +kernel
theorem dX10_pairsOf_17 : decode cX10_pairsOf 17 = .ok (.aload_n 0, 1) := by decide +kernel
theorem dX10_pairsOf_18 : decode cX10_pairsOf 18 = .ok (.iload_n 1, 1) := by decide +kernel
theorem dX10_pairsOf_19 : decode cX10_pairsOf 19 = .ok (.iconst 1, 1) := by decide +kernel
theorem dX10_pairsOf_20 : decode cX10_pairsOf 20 = .ok (.iload_n 3, 1) := by decide +kernel
theorem dX10_pairsOf_21 : decode cX10_pairsOf 21 = .ok (.invokevirtual 112, 3) := by decide +kernel
theorem dX10_pairsOf_24 : decode cX10_pairsOf 24 = .ok (.invokestatic 116, 3) := by decide +kernel
theorem dX10_pairsOf_27 : decode cX10_pairsOf 27 = .ok (.iadd, 1) := by decide +kernel
theorem dX10_pairsOf_28 : decode cX10_pairsOf 28 = .ok (.istore_n 2, 1) := by decide +kernel
theorem dX10_pairsOf_29 : decode cX10_pairsOf 29 = .ok (.iinc 3 1, 3) := by decide +kernel
theorem dX10_pairsOf_32 : decode cX10_pairsOf 32 = .ok (.goto (-28), 3) := by decide +kernel
theorem dX10_pairsOf_35 : decode cX10_pairsOf 35 = .ok (.iload_n 2, 1) := by decide +kernel
theorem dX10_pairsOf_36 : decode cX10_pairsOf 36 = .ok (.ireturn, 1) := by decide +kernel
set_option maxRecDepth 20000 in
theorem ggX10_wearable_X10_isIn : GoodIn wsX10_wearable wsX10_isIn := goodIn_r _ [10] (by decide +kernel) (by decide +kernel)
set_option maxRecDepth 20000 in
theorem gX10_wearable_X10_isIn : GoodIn wsX10_wearable (va_wsS RX10 122 yX10_isIn wsX10_isIn) := goodIn_app (goodIn_of _ (by decide +kernel)) ggX10_wearable_X10_isIn
theorem dX10_wearable_0 : decode cX10_wearable 0 = .ok (.iconst 0, 1) := by decide +kernel
theorem dX10_wearable_1 : decode cX10_wearable 1 = .ok (.istore 4, 2) := by decide +kernel
theorem dX10_wearable_3 : decode cX10_wearable 3 = .ok (.iconst 0, 1) := by decide +kernel
theorem dX10_wearable_4 : decode cX10_wearable 4 = .ok (.istore 5, 2) := by decide +kernel
theorem dX10_wearable_6 : decode cX10_wearable 6 = .ok (.iload 5, 2) := by decide +kernel
theorem dX10_wearable_8 : decode cX10_wearable 8 = .ok (.aload_n 0, 1) := by decide +kernel
theorem dX10_wearable_9 : decode cX10_wearable 9 = .ok (.getfield 61, 3) := by decide +kernel
theorem dX10_wearable_12 : decode cX10_wearable 12 = .ok (.if_icmp .ge 59, 3) := by decide +kernel
theorem dX10_wearable_15 : decode cX10_wearable 15 = .ok (.aload_n 0, 1) := by decide +kernel
theorem dX10_wearable_16 : decode cX10_wearable 16 = .ok (.getfield 20, 3) := by decide +kernel
theorem dX10_wearable_19 : decode cX10_wearable 19 = .ok (.iload 5, 2) := by decide +kernel
theorem dX10_wearable_21 : decode cX10_wearable 21 = .ok (.aaload, 1) := by decide +kernel
theorem dX10_wearable_22 : decode cX10_wearable 22 = .ok (.astore 6, 2) := by decide +kernel
theorem dX10_wearable_24 : decode cX10_wearable 24 = .ok (.iload_n 1, 1) := by decide +kernel
theorem dX10_wearable_25 : decode cX10_wearable 25 = .ok (.aload 6, 2) := by decide +kernel
theorem dX10_wearable_27 : decode cX10_wearable 27 = .ok (.getfield 68, 3) := by decide +kernel
theorem dX10_wearable_30 : decode cX10_wearable 30 = .ok (.invokestatic 122, 3) := by decide +kernel
theorem dX10_wearable_33 : decode cX10_wearable 33 = .ok (.ifCond .eq 32, 3) := by decide +kernel
theorem dX10_wearable_36 : decode cX10_wearable 36 = .ok (.aload 6, 2) := by decide +kernel
theorem dX10_wearable_38 : decode cX10_wearable 38 = .ok (.getfield 71, 3) := by decide +kernel
theorem dX10_wearable_41 : decode cX10_wearable 41 = .ok (.iload_n 2, 1) := by decide +kernel
theorem dX10_wearable_42 : decode cX10_wearable 42 = .ok (.if_icmp .ne 23, 3) := by decide +kernel
theorem dX10_wearable_45 : decode cX10_wearable 45 = .ok (.aload 6, 2) := by decide +kernel
theorem dX10_wearable_47 : decode cX10_wearable 47 = .ok (.getfield 74, 3) := by decide +kernel
theorem dX10_wearable_50 : decode cX10_wearable 50 = .ok (.iload_n 3, 1) := by decide +kernel
theorem dX10_wearable_51 : decode cX10_wearable 51 = .ok (.if_icmp .ne 14, 3) := by decide +kernel
theorem dX10_wearable_54 : decode cX10_wearable 54 = .ok (.aload 6, 2) := by decide +kernel
theorem dX10_wearable_56 : decode cX10_wearable 56 = .ok (.getfield 77, 3) := by decide +kernel
theorem dX10_wearable_59 : decode cX10_wearable 59 = .ok (.ifCond .le 6, 3) := by decide +kernel
theorem dX10_wearable_62 : decode cX10_wearable 62 = .ok (.iinc 4 1, 3) := by decide +kernel
theorem dX10_wearable_65 : decode cX10_wearable 65 = .ok (.iinc 5 1, 3) := by decide +kernel
theorem dX10_wearable_68 : decode cX10_wearable 68 = .ok (.goto (-62), 3) := by decide +kernel
theorem dX10_wearable_71 : decode cX10_wearable 71 = .ok (.iload 4, 2) := by decide +kernel
theorem dX10_wearable_73 : decode cX10_wearable 73 = .ok (.ireturn, 1) := by decide +kernel
set_option maxRecDepth 20000 in
theorem ggX10_twoFooted_X10_isIn : GoodIn wsX10_twoFooted wsX10_isIn := goodIn_r _ [6] (by decide +kernel) (by decide +kernel)
set_option maxRecDepth 20000 in
theorem gX10_twoFooted_X10_isIn : GoodIn wsX10_twoFooted (va_wsS RX10 122 yX10_isIn wsX10_isIn) := goodIn_app (goodIn_of _ (by decide +kernel)) ggX10_twoFooted_X10_isIn
theorem dX10_twoFooted_0 : decode cX10_twoFooted 0 = .ok (.iconst 0, 1) := by decide +kernel
theorem dX10_twoFooted_1 : decode cX10_twoFooted 1 = .ok (.istore_n 2, 1) := by decide +kernel
theorem dX10_twoFooted_2 : decode cX10_twoFooted 2 = .ok (.iconst 0, 1) := by decide +kernel
theorem dX10_twoFooted_3 : decode cX10_twoFooted 3 = .ok (.istore_n 3, 1) := by decide +kernel
theorem dX10_twoFooted_4 : decode cX10_twoFooted 4 = .ok (.iload_n 3, 1) := by decide +kernel
theorem dX10_twoFooted_5 : decode cX10_twoFooted 5 = .ok (.aload_n 0, 1) := by decide +kernel
theorem dX10_twoFooted_6 : decode cX10_twoFooted 6 = .ok (.getfield 53, 3) := by decide +kernel
theorem dX10_twoFooted_9 : decode cX10_twoFooted 9 = .ok (.if_icmp .ge 29, 3) := by decide +kernel
theorem dX10_twoFooted_12 : decode cX10_twoFooted 12 = .ok (.iload_n 1, 1) := by decide +kernel
theorem dX10_twoFooted_13 : decode cX10_twoFooted 13 = .ok (.iload_n 3, 1) := by decide +kernel
theorem dX10_twoFooted_14 : decode cX10_twoFooted 14 = .ok (.invokestatic 122, 3) := by decide +kernel
theorem dX10_twoFooted_17 : decode cX10_twoFooted 17 = .ok (.ifCond .eq 15, 3) := by decide +kernel
theorem dX10_twoFooted_20 : decode cX10_twoFooted 20 = .ok (.aload_n 0, 1) := by decide +kernel
theorem dX10_twoFooted_21 : decode cX10_twoFooted 21 = .ok (.getfield 15, 3) := by decide +kernel
theorem dX10_twoFooted_24 : decode cX10_twoFooted 24 = .ok (.iload_n 3, 1) := by decide +kernel
theorem dX10_twoFooted_25 : decode cX10_twoFooted 25 = .ok (.iaload, 1) := by decide +kernel
theorem dX10_twoFooted_26 : decode cX10_twoFooted 26 = .ok (.ifCond .ne 6, 3) := by decide +kernel
theorem dX10_twoFooted_29 : decode cX10_twoFooted 29 = .ok (.iinc 2 1, 3) := by decide +kernel
theorem dX10_twoFooted_32 : decode cX10_twoFooted 32 = .ok (.iinc 3 1, 3) := by decide +kernel
theorem dX10_twoFooted_35 : decode cX10_twoFooted 35 = .ok (.goto (-31), 3) := by decide +kernel
theorem dX10_twoFooted_38 : decode cX10_twoFooted 38 = .ok (.iload_n 2, 1) := by decide +kernel
theorem dX10_twoFooted_39 : decode cX10_twoFooted 39 = .ok (.ireturn, 1) := by decide +kernel
theorem dX10_isIn_0 : decode cX10_isIn 0 = .ok (.iload_n 0, 1) := by decide +kernel
theorem dX10_isIn_1 : decode cX10_isIn 1 = .ok (.iload_n 1, 1) := by decide +kernel
theorem dX10_isIn_2 : decode cX10_isIn 2 = .ok (.ishr, 1) := by decide +kernel
theorem dX10_isIn_3 : decode cX10_isIn 3 = .ok (.iconst 1, 1) := by decide +kernel
theorem dX10_isIn_4 : decode cX10_isIn 4 = .ok (.iand, 1) := by decide +kernel
theorem dX10_isIn_5 : decode cX10_isIn 5 = .ok (.iconst 1, 1) := by decide +kernel
theorem dX10_isIn_6 : decode cX10_isIn 6 = .ok (.if_icmp .ne 7, 3) := by decide +kernel
theorem dX10_isIn_9 : decode cX10_isIn 9 = .ok (.iconst 1, 1) := by decide +kernel
theorem dX10_isIn_10 : decode cX10_isIn 10 = .ok (.goto 4, 3) := by decide +kernel
theorem dX10_isIn_13 : decode cX10_isIn 13 = .ok (.iconst 0, 1) := by decide +kernel
theorem dX10_isIn_14 : decode cX10_isIn 14 = .ok (.ireturn, 1) := by decide +kernel
set_option maxRecDepth 20000 in
theorem ggX10_canBe_X10_isShoe : GoodIn wsX10_canBe wsX10_isShoe := goodIn_r _ [8, 9, 10, 11, 12, 16, 17, 18, 19, 20, 21, 22, 23, 24] (by decide +kernel) (by decide +kernel)
set_option maxRecDepth 20000 in
theorem gX10_canBe_X10_isShoe : GoodIn wsX10_canBe (wsV RX10 64 RX10 yX10_isShoe wsX10_isShoe) := goodIn_app (goodIn_of _ (by decide +kernel)) ggX10_canBe_X10_isShoe
set_option maxRecDepth 20000 in
theorem ggX10_canBe_X11_isWithin : GoodIn wsX10_canBe wsX11_isWithin := goodIn_r _ [12] (by decide +kernel) (by decide +kernel)
set_option maxRecDepth 20000 in
theorem gX10_canBe_X11_isWithin_n57 : GoodIn wsX10_canBe (wsX11_isWithin) := ggX10_canBe_X11_isWithin
theorem dX10_canBe_0 : decode cX10_canBe 0 = .ok (.aload_n 1, 1) := by decide +kernel
theorem dX10_canBe_1 : decode cX10_canBe 1 = .ok (.getfield 125, 3) := by decide +kernel
theorem dX10_canBe_4 : decode cX10_canBe 4 = .ok (.iload_n 2, 1) := by decide +kernel
theorem dX10_canBe_5 : decode cX10_canBe 5 = .ok (.iconst 2, 1) := by decide +kernel
theorem dX10_canBe_6 : decode cX10_canBe 6 = .ok (.iload_n 3, 1) := by decide +kernel
theorem dX10_canBe_7 : decode cX10_canBe 7 = .ok (.imul, 1) := by decide +kernel
theorem dX10_canBe_8 : decode cX10_canBe 8 = .ok (.iadd, 1) := by decide +kernel
theorem dX10_canBe_9 : decode cX10_canBe 9 = .ok (.iaload, 1) := by decide +kernel
theorem dX10_canBe_10 : decode cX10_canBe 10 = .ok (.istore 4, 2) := by decide +kernel
theorem dX10_canBe_12 : decode cX10_canBe 12 = .ok (.aload_n 0, 1) := by decide +kernel
theorem dX10_canBe_13 : decode cX10_canBe 13 = .ok (.iload 4, 2) := by decide +kernel
theorem dX10_canBe_15 : decode cX10_canBe 15 = .ok (.invokevirtual 64, 3) := by decide +kernel
theorem dX10_canBe_18 : decode cX10_canBe 18 = .ok (.ifCond .eq 24, 3) := by decide +kernel
theorem dX10_canBe_21 : decode cX10_canBe 21 = .ok (.aload_n 1, 1) := by decide +kernel
theorem dX10_canBe_22 : decode cX10_canBe 22 = .ok (.getfield 125, 3) := by decide +kernel
theorem dX10_canBe_25 : decode cX10_canBe 25 = .ok (.iload_n 2, 1) := by decide +kernel
theorem dX10_canBe_26 : decode cX10_canBe 26 = .ok (.iconst 2, 1) := by decide +kernel
theorem dX10_canBe_27 : decode cX10_canBe 27 = .ok (.iload_n 3, 1) := by decide +kernel
theorem dX10_canBe_28 : decode cX10_canBe 28 = .ok (.imul, 1) := by decide +kernel
theorem dX10_canBe_29 : decode cX10_canBe 29 = .ok (.iadd, 1) := by decide +kernel
theorem dX10_canBe_30 : decode cX10_canBe 30 = .ok (.iconst 1, 1) := by decide +kernel
theorem dX10_canBe_31 : decode cX10_canBe 31 = .ok (.iadd, 1) := by decide +kernel
theorem dX10_canBe_32 : decode cX10_canBe 32 = .ok (.iaload, 1) := by decide +kernel
theorem dX10_canBe_33 : decode cX10_canBe 33 = .ok (.iconst 1, 1) := by decide +kernel
theorem dX10_canBe_34 : decode cX10_canBe 34 = .ok (.bipush 99, 2) := by decide +kernel
theorem dX10_canBe_36 : decode cX10_canBe 36 = .ok (.invokestatic 57, 3) := by decide +kernel
theorem dX10_canBe_39 : decode cX10_canBe 39 = .ok (.ifCond .ne 5, 3) := by decide +kernel
theorem dX10_canBe_42 : decode cX10_canBe 42 = .ok (.iconst 0, 1) := by decide +kernel
theorem dX10_canBe_43 : decode cX10_canBe 43 = .ok (.ireturn, 1) := by decide +kernel
theorem dX10_canBe_44 : decode cX10_canBe 44 = .ok (.iconst 0, 1) := by decide +kernel
theorem dX10_canBe_45 : decode cX10_canBe 45 = .ok (.istore 5, 2) := by decide +kernel
theorem dX10_canBe_47 : decode cX10_canBe 47 = .ok (.iconst 0, 1) := by decide +kernel
theorem dX10_canBe_48 : decode cX10_canBe 48 = .ok (.istore 6, 2) := by decide +kernel
theorem dX10_canBe_50 : decode cX10_canBe 50 = .ok (.iload 6, 2) := by decide +kernel
theorem dX10_canBe_52 : decode cX10_canBe 52 = .ok (.iload_n 3, 1) := by decide +kernel
theorem dX10_canBe_53 : decode cX10_canBe 53 = .ok (.if_icmp .gt 43, 3) := by decide +kernel
theorem dX10_canBe_56 : decode cX10_canBe 56 = .ok (.aload_n 1, 1) := by decide +kernel
theorem dX10_canBe_57 : decode cX10_canBe 57 = .ok (.getfield 125, 3) := by decide +kernel
theorem dX10_canBe_60 : decode cX10_canBe 60 = .ok (.iload_n 2, 1) := by decide +kernel
theorem dX10_canBe_61 : decode cX10_canBe 61 = .ok (.iconst 2, 1) := by decide +kernel
theorem dX10_canBe_62 : decode cX10_canBe 62 = .ok (.iload 6, 2) := by decide +kernel
theorem dX10_canBe_64 : decode cX10_canBe 64 = .ok (.imul, 1) := by decide +kernel
theorem dX10_canBe_65 : decode cX10_canBe 65 = .ok (.iadd, 1) := by decide +kernel
theorem dX10_canBe_66 : decode cX10_canBe 66 = .ok (.iaload, 1) := by decide +kernel
theorem dX10_canBe_67 : decode cX10_canBe 67 = .ok (.iload 4, 2) := by decide +kernel
theorem dX10_canBe_69 : decode cX10_canBe 69 = .ok (.if_icmp .ne 21, 3) := by decide +kernel
theorem dX10_canBe_72 : decode cX10_canBe 72 = .ok (.iload 5, 2) := by decide +kernel
theorem dX10_canBe_74 : decode cX10_canBe 74 = .ok (.aload_n 1, 1) := by decide +kernel
theorem dX10_canBe_75 : decode cX10_canBe 75 = .ok (.getfield 125, 3) := by decide +kernel
theorem dX10_canBe_78 : decode cX10_canBe 78 = .ok (.iload_n 2, 1) := by decide +kernel
theorem dX10_canBe_79 : decode cX10_canBe 79 = .ok (.iconst 2, 1) := by decide +kernel
theorem dX10_canBe_80 : decode cX10_canBe 80 = .ok (.iload 6, 2) := by decide +kernel
theorem dX10_canBe_82 : decode cX10_canBe 82 = .ok (.imul, 1) := by decide +kernel
theorem dX10_canBe_83 : decode cX10_canBe 83 = .ok (.iadd, 1) := by decide +kernel
theorem dX10_canBe_84 : decode cX10_canBe 84 = .ok (.iconst 1, 1) := by decide +kernel
theorem dX10_canBe_85 : decode cX10_canBe 85 = .ok (.iadd, 1) := by decide +kernel
