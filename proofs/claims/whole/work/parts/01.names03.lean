theorem dX10_canBe_86 : decode cX10_canBe 86 = .ok (.iaload, 1) := by decide +kernel
theorem dX10_canBe_87 : decode cX10_canBe 87 = .ok (.iadd, 1) := by decide +kernel
theorem dX10_canBe_88 : decode cX10_canBe 88 = .ok (.istore 5, 2) := by decide +kernel
theorem dX10_canBe_90 : decode cX10_canBe 90 = .ok (.iinc 6 1, 3) := by decide +kernel
theorem dX10_canBe_93 : decode cX10_canBe 93 = .ok (.goto (-43), 3) := by decide +kernel
theorem dX10_canBe_96 : decode cX10_canBe 96 = .ok (.iload 5, 2) := by decide +kernel
theorem dX10_canBe_98 : decode cX10_canBe 98 = .ok (.aload_n 0, 1) := by decide +kernel
theorem dX10_canBe_99 : decode cX10_canBe 99 = .ok (.getfield 20, 3) := by decide +kernel
theorem dX10_canBe_102 : decode cX10_canBe 102 = .ok (.iload 4, 2) := by decide +kernel
theorem dX10_canBe_104 : decode cX10_canBe 104 = .ok (.aaload, 1) := by decide +kernel
theorem dX10_canBe_105 : decode cX10_canBe 105 = .ok (.getfield 77, 3) := by decide +kernel
theorem dX10_canBe_108 : decode cX10_canBe 108 = .ok (.if_icmp .gt 7, 3) := by decide +kernel
theorem dX10_canBe_111 : decode cX10_canBe 111 = .ok (.iconst 1, 1) := by decide +kernel
theorem dX10_canBe_112 : decode cX10_canBe 112 = .ok (.goto 4, 3) := by decide +kernel
theorem dX10_canBe_115 : decode cX10_canBe 115 = .ok (.iconst 0, 1) := by decide +kernel
theorem dX10_canBe_116 : decode cX10_canBe 116 = .ok (.ireturn, 1) := by decide +kernel
set_option maxRecDepth 20000 in
theorem ggX10_become_X5_become : GoodIn wsX10_become wsX5_become := goodIn_r _ [18, 19, 20, 21, 22, 23, 66, 67, 68, 69, 70] (by decide +kernel) (by decide +kernel)
set_option maxRecDepth 20000 in
theorem gX10_become_X5_become : GoodIn wsX10_become (wsV RX10 136 RX5 yX5_become wsX5_become) := goodIn_app (goodIn_of _ (by decide +kernel)) ggX10_become_X5_become
set_option maxRecDepth 20000 in
theorem ggX10_become_X7_become : GoodIn wsX10_become wsX7_become := goodIn_r _ [28, 29, 30, 4, 5, 6, 31, 32, 71, 72, 73] (by decide +kernel) (by decide +kernel)
set_option maxRecDepth 20000 in
theorem gX10_become_X7_become : GoodIn wsX10_become (wsV RX10 140 RX7 yX7_become wsX7_become) := goodIn_app (goodIn_of _ (by decide +kernel)) ggX10_become_X7_become
set_option maxRecDepth 20000 in
theorem ggX10_become_X3_become : GoodIn wsX10_become wsX3_become := goodIn_r _ [37, 38, 39, 4, 5, 6, 40, 74, 75] (by decide +kernel) (by decide +kernel)
set_option maxRecDepth 20000 in
theorem gX10_become_X3_become : GoodIn wsX10_become (wsV RX10 143 RX3 yX3_become wsX3_become) := goodIn_app (goodIn_of _ (by decide +kernel)) ggX10_become_X3_become
set_option maxRecDepth 20000 in
theorem ggX10_become_X2_become : GoodIn wsX10_become wsX2_become := goodIn_r _ [45, 46, 47, 4, 5, 6, 76, 77, 78, 79, 80] (by decide +kernel) (by decide +kernel)
set_option maxRecDepth 20000 in
theorem gX10_become_X2_become : GoodIn wsX10_become (wsV RX10 146 RX2 yX2_become wsX2_become) := goodIn_app (goodIn_of _ (by decide +kernel)) ggX10_become_X2_become
set_option maxRecDepth 20000 in
theorem ggX10_become_X1_become : GoodIn wsX10_become wsX1_become := goodIn_r _ [52, 53, 54, 4, 5, 6, 55, 56, 81, 82, 83, 84, 85, 86] (by decide +kernel) (by decide +kernel)
set_option maxRecDepth 20000 in
theorem gX10_become_X1_become : GoodIn wsX10_become (wsV RX10 149 RX1 yX1_become wsX1_become) := goodIn_app (goodIn_of _ (by decide +kernel)) ggX10_become_X1_become
theorem dX10_become_0 : decode cX10_become 0 = .ok (.aload_n 0, 1) := by decide +kernel
theorem dX10_become_1 : decode cX10_become 1 = .ok (.aload_n 1, 1) := by decide +kernel
theorem dX10_become_2 : decode cX10_become 2 = .ok (.getfield 53, 3) := by decide +kernel
theorem dX10_become_5 : decode cX10_become 5 = .ok (.putfield 53, 3) := by decide +kernel
theorem dX10_become_8 : decode cX10_become 8 = .ok (.aload_n 1, 1) := by decide +kernel
theorem dX10_become_9 : decode cX10_become 9 = .ok (.getfield 9, 3) := by decide +kernel
theorem dX10_become_12 : decode cX10_become 12 = .ok (.iconst 0, 1) := by decide +kernel
theorem dX10_become_13 : decode cX10_become 13 = .ok (.aload_n 0, 1) := by decide +kernel
theorem dX10_become_14 : decode cX10_become 14 = .ok (.getfield 9, 3) := by decide +kernel
theorem dX10_become_17 : decode cX10_become 17 = .ok (.iconst 0, 1) := by decide +kernel
theorem dX10_become_18 : decode cX10_become 18 = .ok (.iconst 5, 1) := by decide +kernel
theorem dX10_become_19 : decode cX10_become 19 = .ok (.invokestatic 130, 3) := by decide +kernel
theorem dX10_become_22 : decode cX10_become 22 = .ok (.aload_n 1, 1) := by decide +kernel
theorem dX10_become_23 : decode cX10_become 23 = .ok (.getfield 15, 3) := by decide +kernel
theorem dX10_become_26 : decode cX10_become 26 = .ok (.iconst 0, 1) := by decide +kernel
theorem dX10_become_27 : decode cX10_become 27 = .ok (.aload_n 0, 1) := by decide +kernel
theorem dX10_become_28 : decode cX10_become 28 = .ok (.getfield 15, 3) := by decide +kernel
theorem dX10_become_31 : decode cX10_become 31 = .ok (.iconst 0, 1) := by decide +kernel
theorem dX10_become_32 : decode cX10_become 32 = .ok (.iconst 5, 1) := by decide +kernel
theorem dX10_become_33 : decode cX10_become 33 = .ok (.invokestatic 130, 3) := by decide +kernel
theorem dX10_become_36 : decode cX10_become 36 = .ok (.aload_n 0, 1) := by decide +kernel
theorem dX10_become_37 : decode cX10_become 37 = .ok (.aload_n 1, 1) := by decide +kernel
theorem dX10_become_38 : decode cX10_become 38 = .ok (.getfield 61, 3) := by decide +kernel
theorem dX10_become_41 : decode cX10_become 41 = .ok (.putfield 61, 3) := by decide +kernel
theorem dX10_become_44 : decode cX10_become 44 = .ok (.iconst 0, 1) := by decide +kernel
theorem dX10_become_45 : decode cX10_become 45 = .ok (.istore_n 2, 1) := by decide +kernel
theorem dX10_become_46 : decode cX10_become 46 = .ok (.iload_n 2, 1) := by decide +kernel
theorem dX10_become_47 : decode cX10_become 47 = .ok (.bipush 16, 2) := by decide +kernel
theorem dX10_become_49 : decode cX10_become 49 = .ok (.if_icmp .ge 24, 3) := by decide +kernel
theorem dX10_become_52 : decode cX10_become 52 = .ok (.aload_n 0, 1) := by decide +kernel
theorem dX10_become_53 : decode cX10_become 53 = .ok (.getfield 20, 3) := by decide +kernel
theorem dX10_become_56 : decode cX10_become 56 = .ok (.iload_n 2, 1) := by decide +kernel
theorem dX10_become_57 : decode cX10_become 57 = .ok (.aaload, 1) := by decide +kernel
theorem dX10_become_58 : decode cX10_become 58 = .ok (.aload_n 1, 1) := by decide +kernel
theorem dX10_become_59 : decode cX10_become 59 = .ok (.getfield 20, 3) := by decide +kernel
theorem dX10_become_62 : decode cX10_become 62 = .ok (.iload_n 2, 1) := by decide +kernel
theorem dX10_become_63 : decode cX10_become 63 = .ok (.aaload, 1) := by decide +kernel
theorem dX10_become_64 : decode cX10_become 64 = .ok (.invokevirtual 136, 3) := by decide +kernel
theorem dX10_become_67 : decode cX10_become 67 = .ok (.iinc 2 1, 3) := by decide +kernel
theorem dX10_become_70 : decode cX10_become 70 = .ok (.goto (-24), 3) := by decide +kernel
theorem dX10_become_73 : decode cX10_become 73 = .ok (.aload_n 0, 1) := by decide +kernel
theorem dX10_become_74 : decode cX10_become 74 = .ok (.getfield 27, 3) := by decide +kernel
theorem dX10_become_77 : decode cX10_become 77 = .ok (.aload_n 1, 1) := by decide +kernel
theorem dX10_become_78 : decode cX10_become 78 = .ok (.getfield 27, 3) := by decide +kernel
theorem dX10_become_81 : decode cX10_become 81 = .ok (.invokevirtual 140, 3) := by decide +kernel
theorem dX10_become_84 : decode cX10_become 84 = .ok (.aload_n 0, 1) := by decide +kernel
theorem dX10_become_85 : decode cX10_become 85 = .ok (.getfield 34, 3) := by decide +kernel
theorem dX10_become_88 : decode cX10_become 88 = .ok (.aload_n 1, 1) := by decide +kernel
theorem dX10_become_89 : decode cX10_become 89 = .ok (.getfield 34, 3) := by decide +kernel
theorem dX10_become_92 : decode cX10_become 92 = .ok (.invokevirtual 143, 3) := by decide +kernel
theorem dX10_become_95 : decode cX10_become 95 = .ok (.aload_n 0, 1) := by decide +kernel
theorem dX10_become_96 : decode cX10_become 96 = .ok (.getfield 41, 3) := by decide +kernel
theorem dX10_become_99 : decode cX10_become 99 = .ok (.aload_n 1, 1) := by decide +kernel
theorem dX10_become_100 : decode cX10_become 100 = .ok (.getfield 41, 3) := by decide +kernel
theorem dX10_become_103 : decode cX10_become 103 = .ok (.invokevirtual 146, 3) := by decide +kernel
theorem dX10_become_106 : decode cX10_become 106 = .ok (.aload_n 0, 1) := by decide +kernel
theorem dX10_become_107 : decode cX10_become 107 = .ok (.getfield 48, 3) := by decide +kernel
theorem dX10_become_110 : decode cX10_become 110 = .ok (.aload_n 1, 1) := by decide +kernel
theorem dX10_become_111 : decode cX10_become 111 = .ok (.getfield 48, 3) := by decide +kernel
theorem dX10_become_114 : decode cX10_become 114 = .ok (.invokevirtual 149, 3) := by decide +kernel
theorem dX10_become_117 : decode cX10_become 117 = .ok (.return_, 1) := by decide +kernel
set_option maxRecDepth 20000 in
theorem ggX11_init_X10_init : GoodIn wsX11_init wsX10_init := goodIn_r _ [35, 36, 2, 3, 37, 38, 39, 40, 41, 42, 14, 15, 43, 44, 18, 19, 45, 46, 47, 48, 49, 50, 51, 52, 53, 54, 55, 56, 57, 58, 59, 60, 61, 62, 63, 64, 65, 66, 67, 68, 69, 70, 71, 72, 73, 74, 75, 76, 77, 78, 79, 80, 81, 82, 83, 84, 85, 86, 129, 130, 131, 132, 133, 134, 135, 136, 137, 150, 151, 152, 153, 154, 179, 180, 181, 182, 183, 184, 185, 186, 187, 188, 189, 190, 191, 192, 193, 194] (by decide +kernel) (by decide +kernel)
set_option maxRecDepth 20000 in
theorem gX11_init_X10_init : GoodIn wsX11_init (wsX10_init) := ggX11_init_X10_init
set_option maxRecDepth 20000 in
theorem ggX11_init_X6_init : GoodIn wsX11_init wsX6_init := goodIn_r _ [88, 89, 2, 3, 37, 90, 147, 148, 149] (by decide +kernel) (by decide +kernel)
set_option maxRecDepth 20000 in
theorem gX11_init_X6_init_n21 : GoodIn wsX11_init (wsX6_init) := ggX11_init_X6_init
set_option maxRecDepth 20000 in
theorem ggX11_init_X7_init : GoodIn wsX11_init wsX7_init := goodIn_r _ [57, 58, 2, 3, 37, 59, 60, 150, 151, 152] (by decide +kernel) (by decide +kernel)
set_option maxRecDepth 20000 in
theorem gX11_init_X7_init_n28 : GoodIn wsX11_init (wsX7_init) := ggX11_init_X7_init
set_option maxRecDepth 20000 in
theorem ggX11_init_X3_init : GoodIn wsX11_init wsX3_init := goodIn_r _ [62, 63, 2, 3, 37, 64, 65, 153, 154] (by decide +kernel) (by decide +kernel)
set_option maxRecDepth 20000 in
theorem gX11_init_X3_init_n35 : GoodIn wsX11_init (wsX3_init) := ggX11_init_X3_init
set_option maxRecDepth 20000 in
theorem ggX11_init_X9_init : GoodIn wsX11_init wsX9_init := goodIn_r _ [92, 93, 2, 3, 94, 95, 96, 97, 98, 37, 99, 100, 101, 102, 103, 104, 105, 106, 107, 108, 109, 110, 111, 112, 113, 114, 115, 116, 117, 118, 119, 155, 156, 157, 158, 159, 160, 161, 162, 163, 164, 165, 166, 167, 168, 169, 170, 171, 172, 173, 195, 196, 197, 198] (by decide +kernel) (by decide +kernel)
set_option maxRecDepth 20000 in
theorem gX11_init_X9_init_n42 : GoodIn wsX11_init (wsX9_init) := ggX11_init_X9_init
set_option maxRecDepth 20000 in
theorem ggX11_init_X8_init : GoodIn wsX11_init wsX8_init := goodIn_r _ [121, 122, 2, 3, 37, 123, 174, 175] (by decide +kernel) (by decide +kernel)
set_option maxRecDepth 20000 in
theorem gX11_init_X8_init_n49 : GoodIn wsX11_init (wsX8_init) := ggX11_init_X8_init
set_option maxRecDepth 20000 in
theorem ggX11_init_X4_init : GoodIn wsX11_init wsX4_init := goodIn_r _ [125, 126, 2, 3, 37, 127, 128, 176, 177, 178] (by decide +kernel) (by decide +kernel)
set_option maxRecDepth 20000 in
theorem gX11_init_X4_init_n60 : GoodIn wsX11_init (wsX4_init) := ggX11_init_X4_init
theorem dX11_init_0 : decode cX11_init 0 = .ok (.aload_n 0, 1) := by decide +kernel
theorem dX11_init_1 : decode cX11_init 1 = .ok (.invokespecial 1, 3) := by decide +kernel
theorem dX11_init_4 : decode cX11_init 4 = .ok (.aload_n 0, 1) := by decide +kernel
theorem dX11_init_5 : decode cX11_init 5 = .ok (.new 7, 3) := by decide +kernel
theorem dX11_init_8 : decode cX11_init 8 = .ok (.dup, 1) := by decide +kernel
theorem dX11_init_9 : decode cX11_init 9 = .ok (.invokespecial 9, 3) := by decide +kernel
theorem dX11_init_12 : decode cX11_init 12 = .ok (.putfield 10, 3) := by decide +kernel
theorem dX11_init_15 : decode cX11_init 15 = .ok (.aload_n 0, 1) := by decide +kernel
theorem dX11_init_16 : decode cX11_init 16 = .ok (.new 7, 3) := by decide +kernel
theorem dX11_init_19 : decode cX11_init 19 = .ok (.dup, 1) := by decide +kernel
theorem dX11_init_20 : decode cX11_init 20 = .ok (.invokespecial 9, 3) := by decide +kernel
theorem dX11_init_23 : decode cX11_init 23 = .ok (.putfield 16, 3) := by decide +kernel
theorem dX11_init_26 : decode cX11_init 26 = .ok (.aload_n 0, 1) := by decide +kernel
theorem dX11_init_27 : decode cX11_init 27 = .ok (.new 19, 3) := by decide +kernel
theorem dX11_init_30 : decode cX11_init 30 = .ok (.dup, 1) := by decide +kernel
theorem dX11_init_31 : decode cX11_init 31 = .ok (.invokespecial 21, 3) := by decide +kernel
theorem dX11_init_34 : decode cX11_init 34 = .ok (.putfield 22, 3) := by decide +kernel
theorem dX11_init_37 : decode cX11_init 37 = .ok (.aload_n 0, 1) := by decide +kernel
theorem dX11_init_38 : decode cX11_init 38 = .ok (.new 26, 3) := by decide +kernel
theorem dX11_init_41 : decode cX11_init 41 = .ok (.dup, 1) := by decide +kernel
theorem dX11_init_42 : decode cX11_init 42 = .ok (.invokespecial 28, 3) := by decide +kernel
theorem dX11_init_45 : decode cX11_init 45 = .ok (.putfield 29, 3) := by decide +kernel
theorem dX11_init_48 : decode cX11_init 48 = .ok (.aload_n 0, 1) := by decide +kernel
theorem dX11_init_49 : decode cX11_init 49 = .ok (.new 33, 3) := by decide +kernel
theorem dX11_init_52 : decode cX11_init 52 = .ok (.dup, 1) := by decide +kernel
theorem dX11_init_53 : decode cX11_init 53 = .ok (.invokespecial 35, 3) := by decide +kernel
theorem dX11_init_56 : decode cX11_init 56 = .ok (.putfield 36, 3) := by decide +kernel
theorem dX11_init_59 : decode cX11_init 59 = .ok (.aload_n 0, 1) := by decide +kernel
theorem dX11_init_60 : decode cX11_init 60 = .ok (.new 40, 3) := by decide +kernel
theorem dX11_init_63 : decode cX11_init 63 = .ok (.dup, 1) := by decide +kernel
theorem dX11_init_64 : decode cX11_init 64 = .ok (.invokespecial 42, 3) := by decide +kernel
theorem dX11_init_67 : decode cX11_init 67 = .ok (.putfield 43, 3) := by decide +kernel
theorem dX11_init_70 : decode cX11_init 70 = .ok (.aload_n 0, 1) := by decide +kernel
theorem dX11_init_71 : decode cX11_init 71 = .ok (.new 47, 3) := by decide +kernel
theorem dX11_init_74 : decode cX11_init 74 = .ok (.dup, 1) := by decide +kernel
theorem dX11_init_75 : decode cX11_init 75 = .ok (.invokespecial 49, 3) := by decide +kernel
theorem dX11_init_78 : decode cX11_init 78 = .ok (.putfield 50, 3) := by decide +kernel
theorem dX11_init_81 : decode cX11_init 81 = .ok (.aload_n 0, 1) := by decide +kernel
theorem dX11_init_82 : decode cX11_init 82 = .ok (.iconst 4, 1) := by decide +kernel
theorem dX11_init_83 : decode cX11_init 83 = .ok (.anewarray 54, 3) := by decide +kernel
theorem dX11_init_86 : decode cX11_init 86 = .ok (.putfield 56, 3) := by decide +kernel
theorem dX11_init_89 : decode cX11_init 89 = .ok (.iconst 0, 1) := by decide +kernel
theorem dX11_init_90 : decode cX11_init 90 = .ok (.istore_n 1, 1) := by decide +kernel
theorem dX11_init_91 : decode cX11_init 91 = .ok (.iload_n 1, 1) := by decide +kernel
theorem dX11_init_92 : decode cX11_init 92 = .ok (.iconst 4, 1) := by decide +kernel
theorem dX11_init_93 : decode cX11_init 93 = .ok (.if_icmp .ge 22, 3) := by decide +kernel
theorem dX11_init_96 : decode cX11_init 96 = .ok (.aload_n 0, 1) := by decide +kernel
theorem dX11_init_97 : decode cX11_init 97 = .ok (.getfield 56, 3) := by decide +kernel
theorem dX11_init_100 : decode cX11_init 100 = .ok (.iload_n 1, 1) := by decide +kernel
theorem dX11_init_101 : decode cX11_init 101 = .ok (.new 54, 3) := by decide +kernel
theorem dX11_init_104 : decode cX11_init 104 = .ok (.dup, 1) := by decide +kernel
theorem dX11_init_105 : decode cX11_init 105 = .ok (.invokespecial 60, 3) := by decide +kernel
theorem dX11_init_108 : decode cX11_init 108 = .ok (.aastore, 1) := by decide +kernel
theorem dX11_init_109 : decode cX11_init 109 = .ok (.iinc 1 1, 3) := by decide +kernel
theorem dX11_init_112 : decode cX11_init 112 = .ok (.goto (-21), 3) := by decide +kernel
theorem dX11_init_115 : decode cX11_init 115 = .ok (.return_, 1) := by decide +kernel
set_option maxRecDepth 20000 in
theorem ggX11_person_X11_isWithin : GoodIn wsX11_person wsX11_isWithin := goodIn_r _ [5] (by decide +kernel) (by decide +kernel)
set_option maxRecDepth 20000 in
theorem gX11_person_X11_isWithin : GoodIn wsX11_person (va_wsS RX11 61 yX11_isWithin wsX11_isWithin) := goodIn_app (goodIn_of _ (by decide +kernel)) ggX11_person_X11_isWithin
set_option maxRecDepth 20000 in
theorem ggX11_person_X10_addPerson : GoodIn wsX11_person wsX10_addPerson := goodIn_r _ [10, 11, 12, 13, 23, 24, 25, 26, 27, 28, 29, 30, 31] (by decide +kernel) (by decide +kernel)
set_option maxRecDepth 20000 in
theorem gX11_person_X10_addPerson : GoodIn wsX11_person (wsV RX11 65 RX10 yX10_addPerson wsX10_addPerson) := goodIn_app (goodIn_of _ (by decide +kernel)) ggX11_person_X10_addPerson
theorem dX11_person_0 : decode cX11_person 0 = .ok (.iload_n 1, 1) := by decide +kernel
theorem dX11_person_1 : decode cX11_person 1 = .ok (.iconst 0, 1) := by decide +kernel
theorem dX11_person_2 : decode cX11_person 2 = .ok (.sipush 9999, 3) := by decide +kernel
theorem dX11_person_5 : decode cX11_person 5 = .ok (.invokestatic 61, 3) := by decide +kernel
theorem dX11_person_8 : decode cX11_person 8 = .ok (.ifCond .eq 12, 3) := by decide +kernel
theorem dX11_person_11 : decode cX11_person 11 = .ok (.iload_n 2, 1) := by decide +kernel
theorem dX11_person_12 : decode cX11_person 12 = .ok (.iconst 0, 1) := by decide +kernel
theorem dX11_person_13 : decode cX11_person 13 = .ok (.iconst 2, 1) := by decide +kernel
theorem dX11_person_14 : decode cX11_person 14 = .ok (.invokestatic 61, 3) := by decide +kernel
theorem dX11_person_17 : decode cX11_person 17 = .ok (.ifCond .ne 5, 3) := by decide +kernel
theorem dX11_person_20 : decode cX11_person 20 = .ok (.iconst (-1), 1) := by decide +kernel
theorem dX11_person_21 : decode cX11_person 21 = .ok (.ireturn, 1) := by decide +kernel
theorem dX11_person_22 : decode cX11_person 22 = .ok (.aload_n 0, 1) := by decide +kernel
theorem dX11_person_23 : decode cX11_person 23 = .ok (.getfield 10, 3) := by decide +kernel
theorem dX11_person_26 : decode cX11_person 26 = .ok (.iload_n 1, 1) := by decide +kernel
theorem dX11_person_27 : decode cX11_person 27 = .ok (.iload_n 2, 1) := by decide +kernel
theorem dX11_person_28 : decode cX11_person 28 = .ok (.invokevirtual 65, 3) := by decide +kernel
theorem dX11_person_31 : decode cX11_person 31 = .ok (.ireturn, 1) := by decide +kernel
set_option maxRecDepth 20000 in
theorem ggX11_shoe_X10_isPerson : GoodIn wsX11_shoe wsX10_isPerson := goodIn_r _ [6, 7, 8, 9, 10, 38, 39, 40, 41, 42, 43, 44, 45, 46] (by decide +kernel) (by decide +kernel)
set_option maxRecDepth 20000 in
theorem gX11_shoe_X10_isPerson : GoodIn wsX11_shoe (wsV RX11 69 RX10 yX10_isPerson wsX10_isPerson) := goodIn_app (goodIn_of _ (by decide +kernel)) ggX11_shoe_X10_isPerson
set_option maxRecDepth 20000 in
theorem ggX11_shoe_X11_isFoot : GoodIn wsX11_shoe wsX11_isFoot := goodIn_r _ [13, 14, 8, 9, 10] (by decide +kernel) (by decide +kernel)
set_option maxRecDepth 20000 in
theorem gX11_shoe_X11_isFoot : GoodIn wsX11_shoe (va_wsS RX11 73 yX11_isFoot wsX11_isFoot) := goodIn_app (goodIn_of _ (by decide +kernel)) ggX11_shoe_X11_isFoot
set_option maxRecDepth 20000 in
theorem ggX11_shoe_X11_isSort : GoodIn wsX11_shoe wsX11_isSort := goodIn_r _ [17, 14, 8, 9, 10] (by decide +kernel) (by decide +kernel)
set_option maxRecDepth 20000 in
theorem gX11_shoe_X11_isSort : GoodIn wsX11_shoe (va_wsS RX11 76 yX11_isSort wsX11_isSort) := goodIn_app (goodIn_of _ (by decide +kernel)) ggX11_shoe_X11_isSort
set_option maxRecDepth 20000 in
theorem ggX11_shoe_X11_isWithin : GoodIn wsX11_shoe wsX11_isWithin := goodIn_r _ [10] (by decide +kernel) (by decide +kernel)
set_option maxRecDepth 20000 in
theorem gX11_shoe_X11_isWithin : GoodIn wsX11_shoe (va_wsS RX11 61 yX11_isWithin wsX11_isWithin) := goodIn_app (goodIn_of _ (by decide +kernel)) ggX11_shoe_X11_isWithin
set_option maxRecDepth 20000 in
theorem ggX11_shoe_X10_addShoe : GoodIn wsX11_shoe wsX10_addShoe := goodIn_r _ [21, 22, 23, 24, 25, 26, 27, 28, 38, 39, 40, 41, 42, 43, 44, 45, 46, 47, 48, 49, 50, 51] (by decide +kernel) (by decide +kernel)
set_option maxRecDepth 20000 in
theorem gX11_shoe_X10_addShoe : GoodIn wsX11_shoe (wsV RX11 79 RX10 yX10_addShoe wsX10_addShoe) := goodIn_app (goodIn_of _ (by decide +kernel)) ggX11_shoe_X10_addShoe
theorem dX11_shoe_0 : decode cX11_shoe 0 = .ok (.aload_n 0, 1) := by decide +kernel
theorem dX11_shoe_1 : decode cX11_shoe 1 = .ok (.getfield 10, 3) := by decide +kernel
theorem dX11_shoe_4 : decode cX11_shoe 4 = .ok (.iload_n 1, 1) := by decide +kernel
theorem dX11_shoe_5 : decode cX11_shoe 5 = .ok (.invokevirtual 69, 3) := by decide +kernel
theorem dX11_shoe_8 : decode cX11_shoe 8 = .ok (.ifCond .eq 28, 3) := by decide +kernel
theorem dX11_shoe_11 : decode cX11_shoe 11 = .ok (.iload_n 2, 1) := by decide +kernel
theorem dX11_shoe_12 : decode cX11_shoe 12 = .ok (.invokestatic 73, 3) := by decide +kernel
theorem dX11_shoe_15 : decode cX11_shoe 15 = .ok (.ifCond .eq 21, 3) := by decide +kernel
theorem dX11_shoe_18 : decode cX11_shoe 18 = .ok (.iload_n 3, 1) := by decide +kernel
theorem dX11_shoe_19 : decode cX11_shoe 19 = .ok (.invokestatic 76, 3) := by decide +kernel
theorem dX11_shoe_22 : decode cX11_shoe 22 = .ok (.ifCond .eq 14, 3) := by decide +kernel
theorem dX11_shoe_25 : decode cX11_shoe 25 = .ok (.iload 4, 2) := by decide +kernel
theorem dX11_shoe_27 : decode cX11_shoe 27 = .ok (.iconst 0, 1) := by decide +kernel
theorem dX11_shoe_28 : decode cX11_shoe 28 = .ok (.bipush 99, 2) := by decide +kernel
theorem dX11_shoe_30 : decode cX11_shoe 30 = .ok (.invokestatic 61, 3) := by decide +kernel
theorem dX11_shoe_33 : decode cX11_shoe 33 = .ok (.ifCond .ne 5, 3) := by decide +kernel
theorem dX11_shoe_36 : decode cX11_shoe 36 = .ok (.iconst (-1), 1) := by decide +kernel
theorem dX11_shoe_37 : decode cX11_shoe 37 = .ok (.ireturn, 1) := by decide +kernel
theorem dX11_shoe_38 : decode cX11_shoe 38 = .ok (.aload_n 0, 1) := by decide +kernel
theorem dX11_shoe_39 : decode cX11_shoe 39 = .ok (.getfield 10, 3) := by decide +kernel
theorem dX11_shoe_42 : decode cX11_shoe 42 = .ok (.iload_n 1, 1) := by decide +kernel
theorem dX11_shoe_43 : decode cX11_shoe 43 = .ok (.iload_n 2, 1) := by decide +kernel
theorem dX11_shoe_44 : decode cX11_shoe 44 = .ok (.iload_n 3, 1) := by decide +kernel
theorem dX11_shoe_45 : decode cX11_shoe 45 = .ok (.iload 4, 2) := by decide +kernel
theorem dX11_shoe_47 : decode cX11_shoe 47 = .ok (.invokevirtual 79, 3) := by decide +kernel
theorem dX11_shoe_50 : decode cX11_shoe 50 = .ok (.ireturn, 1) := by decide +kernel
set_option maxRecDepth 20000 in
theorem ggX11_told_X10_isShoe : GoodIn wsX11_told wsX10_isShoe := goodIn_r _ [12, 13, 14, 15, 16, 26, 27, 28, 29, 30, 31, 32, 33, 34] (by decide +kernel) (by decide +kernel)
set_option maxRecDepth 20000 in
theorem gX11_told_X10_isShoe : GoodIn wsX11_told (wsV RX11 83 RX10 yX10_isShoe wsX10_isShoe) := goodIn_app (goodIn_of _ (by decide +kernel)) ggX11_told_X10_isShoe
theorem dX11_told_0 : decode cX11_told 0 = .ok (.aload_n 0, 1) := by decide +kernel
theorem dX11_told_1 : decode cX11_told 1 = .ok (.getfield 10, 3) := by decide +kernel
theorem dX11_told_4 : decode cX11_told 4 = .ok (.iload_n 1, 1) := by decide +kernel
theorem dX11_told_5 : decode cX11_told 5 = .ok (.invokevirtual 83, 3) := by decide +kernel
theorem dX11_told_8 : decode cX11_told 8 = .ok (.ifCond .ne 5, 3) := by decide +kernel
theorem dX11_told_11 : decode cX11_told 11 = .ok (.iconst (-1), 1) := by decide +kernel
theorem dX11_told_12 : decode cX11_told 12 = .ok (.ireturn, 1) := by decide +kernel
theorem dX11_told_13 : decode cX11_told 13 = .ok (.aload_n 0, 1) := by decide +kernel
theorem dX11_told_14 : decode cX11_told 14 = .ok (.getfield 10, 3) := by decide +kernel
theorem dX11_told_17 : decode cX11_told 17 = .ok (.getfield 86, 3) := by decide +kernel
theorem dX11_told_20 : decode cX11_told 20 = .ok (.iload_n 1, 1) := by decide +kernel
theorem dX11_told_21 : decode cX11_told 21 = .ok (.aaload, 1) := by decide +kernel
theorem dX11_told_22 : decode cX11_told 22 = .ok (.astore_n 3, 1) := by decide +kernel
theorem dX11_told_23 : decode cX11_told 23 = .ok (.iload_n 2, 1) := by decide +kernel
theorem dX11_told_24 : decode cX11_told 24 = .ok (.tableswitch 69 0 4 #[36, 41, 46, 51, 64], 36) := by decide +kernel
theorem dX11_told_60 : decode cX11_told 60 = .ok (.aload_n 3, 1) := by decide +kernel
theorem dX11_told_61 : decode cX11_told 61 = .ok (.getfield 90, 3) := by decide +kernel
theorem dX11_told_64 : decode cX11_told 64 = .ok (.ireturn, 1) := by decide +kernel
theorem dX11_told_65 : decode cX11_told 65 = .ok (.aload_n 3, 1) := by decide +kernel
theorem dX11_told_66 : decode cX11_told 66 = .ok (.getfield 96, 3) := by decide +kernel
theorem dX11_told_69 : decode cX11_told 69 = .ok (.ireturn, 1) := by decide +kernel
theorem dX11_told_70 : decode cX11_told 70 = .ok (.aload_n 3, 1) := by decide +kernel
theorem dX11_told_71 : decode cX11_told 71 = .ok (.getfield 99, 3) := by decide +kernel
theorem dX11_told_74 : decode cX11_told 74 = .ok (.ireturn, 1) := by decide +kernel
theorem dX11_told_75 : decode cX11_told 75 = .ok (.aload_n 3, 1) := by decide +kernel
theorem dX11_told_76 : decode cX11_told 76 = .ok (.getfield 102, 3) := by decide +kernel
theorem dX11_told_79 : decode cX11_told 79 = .ok (.ifCond .eq 7, 3) := by decide +kernel
theorem dX11_told_82 : decode cX11_told 82 = .ok (.iconst 1, 1) := by decide +kernel
theorem dX11_told_83 : decode cX11_told 83 = .ok (.goto 4, 3) := by decide +kernel
theorem dX11_told_86 : decode cX11_told 86 = .ok (.iconst 0, 1) := by decide +kernel
theorem dX11_told_87 : decode cX11_told 87 = .ok (.ireturn, 1) := by decide +kernel
theorem dX11_told_88 : decode cX11_told 88 = .ok (.aload_n 3, 1) := by decide +kernel
theorem dX11_told_89 : decode cX11_told 89 = .ok (.getfield 106, 3) := by decide +kernel
theorem dX11_told_92 : decode cX11_told 92 = .ok (.ireturn, 1) := by decide +kernel
theorem dX11_told_93 : decode cX11_told 93 = .ok (.iconst (-1), 1) := by decide +kernel
theorem dX11_told_94 : decode cX11_told 94 = .ok (.ireturn, 1) := by decide +kernel
set_option maxRecDepth 20000 in
theorem ggX11_stamp_X10_isShoe : GoodIn wsX11_stamp wsX10_isShoe := goodIn_r _ [8, 9, 10, 11, 12, 22, 23, 24, 25, 26, 27, 28, 29, 30] (by decide +kernel) (by decide +kernel)
set_option maxRecDepth 20000 in
theorem gX11_stamp_X10_isShoe : GoodIn wsX11_stamp (wsV RX11 83 RX10 yX10_isShoe wsX10_isShoe) := goodIn_app (goodIn_of _ (by decide +kernel)) ggX11_stamp_X10_isShoe
theorem dX11_stamp_0 : decode cX11_stamp 0 = .ok (.aload_n 0, 1) := by decide +kernel
theorem dX11_stamp_1 : decode cX11_stamp 1 = .ok (.getfield 10, 3) := by decide +kernel
theorem dX11_stamp_4 : decode cX11_stamp 4 = .ok (.iload_n 1, 1) := by decide +kernel
theorem dX11_stamp_5 : decode cX11_stamp 5 = .ok (.invokevirtual 83, 3) := by decide +kernel
theorem dX11_stamp_8 : decode cX11_stamp 8 = .ok (.ifCond .ne 5, 3) := by decide +kernel
theorem dX11_stamp_11 : decode cX11_stamp 11 = .ok (.iconst (-1), 1) := by decide +kernel
theorem dX11_stamp_12 : decode cX11_stamp 12 = .ok (.ireturn, 1) := by decide +kernel
theorem dX11_stamp_13 : decode cX11_stamp 13 = .ok (.aload_n 0, 1) := by decide +kernel
theorem dX11_stamp_14 : decode cX11_stamp 14 = .ok (.getfield 10, 3) := by decide +kernel
theorem dX11_stamp_17 : decode cX11_stamp 17 = .ok (.getfield 86, 3) := by decide +kernel
theorem dX11_stamp_20 : decode cX11_stamp 20 = .ok (.iload_n 1, 1) := by decide +kernel
theorem dX11_stamp_21 : decode cX11_stamp 21 = .ok (.aaload, 1) := by decide +kernel
theorem dX11_stamp_22 : decode cX11_stamp 22 = .ok (.astore_n 3, 1) := by decide +kernel
theorem dX11_stamp_23 : decode cX11_stamp 23 = .ok (.aload_n 3, 1) := by decide +kernel
theorem dX11_stamp_24 : decode cX11_stamp 24 = .ok (.getfield 102, 3) := by decide +kernel
theorem dX11_stamp_27 : decode cX11_stamp 27 = .ok (.ifCond .eq 7, 3) := by decide +kernel
theorem dX11_stamp_30 : decode cX11_stamp 30 = .ok (.iconst 1, 1) := by decide +kernel
theorem dX11_stamp_31 : decode cX11_stamp 31 = .ok (.goto 4, 3) := by decide +kernel
theorem dX11_stamp_34 : decode cX11_stamp 34 = .ok (.iconst 0, 1) := by decide +kernel
theorem dX11_stamp_35 : decode cX11_stamp 35 = .ok (.istore 4, 2) := by decide +kernel
theorem dX11_stamp_37 : decode cX11_stamp 37 = .ok (.aload_n 3, 1) := by decide +kernel
theorem dX11_stamp_38 : decode cX11_stamp 38 = .ok (.iload_n 2, 1) := by decide +kernel
theorem dX11_stamp_39 : decode cX11_stamp 39 = .ok (.putfield 102, 3) := by decide +kernel
theorem dX11_stamp_42 : decode cX11_stamp 42 = .ok (.iload 4, 2) := by decide +kernel
theorem dX11_stamp_44 : decode cX11_stamp 44 = .ok (.ireturn, 1) := by decide +kernel
set_option maxRecDepth 20000 in
theorem ggX11_give_X10_isShoe : GoodIn wsX11_give wsX10_isShoe := goodIn_r _ [8, 9, 10, 11, 12, 27, 28, 29, 30, 31, 32, 33, 34, 35] (by decide +kernel) (by decide +kernel)
set_option maxRecDepth 20000 in
theorem gX11_give_X10_isShoe : GoodIn wsX11_give (wsV RX11 83 RX10 yX10_isShoe wsX10_isShoe) := goodIn_app (goodIn_of _ (by decide +kernel)) ggX11_give_X10_isShoe
set_option maxRecDepth 20000 in
theorem ggX11_give_X10_isPerson : GoodIn wsX11_give wsX10_isPerson := goodIn_r _ [16, 17, 10, 11, 12, 27, 28, 29, 30, 31, 32, 33, 34, 35] (by decide +kernel) (by decide +kernel)
set_option maxRecDepth 20000 in
theorem gX11_give_X10_isPerson : GoodIn wsX11_give (wsV RX11 69 RX10 yX10_isPerson wsX10_isPerson) := goodIn_app (goodIn_of _ (by decide +kernel)) ggX11_give_X10_isPerson
theorem dX11_give_0 : decode cX11_give 0 = .ok (.aload_n 0, 1) := by decide +kernel
theorem dX11_give_1 : decode cX11_give 1 = .ok (.getfield 10, 3) := by decide +kernel
theorem dX11_give_4 : decode cX11_give 4 = .ok (.iload_n 1, 1) := by decide +kernel
theorem dX11_give_5 : decode cX11_give 5 = .ok (.invokevirtual 83, 3) := by decide +kernel
theorem dX11_give_8 : decode cX11_give 8 = .ok (.ifCond .eq 14, 3) := by decide +kernel
theorem dX11_give_11 : decode cX11_give 11 = .ok (.aload_n 0, 1) := by decide +kernel
theorem dX11_give_12 : decode cX11_give 12 = .ok (.getfield 10, 3) := by decide +kernel
theorem dX11_give_15 : decode cX11_give 15 = .ok (.iload_n 2, 1) := by decide +kernel
theorem dX11_give_16 : decode cX11_give 16 = .ok (.invokevirtual 69, 3) := by decide +kernel
theorem dX11_give_19 : decode cX11_give 19 = .ok (.ifCond .ne 5, 3) := by decide +kernel
theorem dX11_give_22 : decode cX11_give 22 = .ok (.iconst (-1), 1) := by decide +kernel
theorem dX11_give_23 : decode cX11_give 23 = .ok (.ireturn, 1) := by decide +kernel
theorem dX11_give_24 : decode cX11_give 24 = .ok (.aload_n 0, 1) := by decide +kernel
theorem dX11_give_25 : decode cX11_give 25 = .ok (.getfield 10, 3) := by decide +kernel
theorem dX11_give_28 : decode cX11_give 28 = .ok (.getfield 86, 3) := by decide +kernel
theorem dX11_give_31 : decode cX11_give 31 = .ok (.iload_n 1, 1) := by decide +kernel
theorem dX11_give_32 : decode cX11_give 32 = .ok (.aaload, 1) := by decide +kernel
theorem dX11_give_33 : decode cX11_give 33 = .ok (.astore_n 3, 1) := by decide +kernel
theorem dX11_give_34 : decode cX11_give 34 = .ok (.aload_n 3, 1) := by decide +kernel
theorem dX11_give_35 : decode cX11_give 35 = .ok (.getfield 106, 3) := by decide +kernel
theorem dX11_give_38 : decode cX11_give 38 = .ok (.istore 4, 2) := by decide +kernel
theorem dX11_give_40 : decode cX11_give 40 = .ok (.aload_n 3, 1) := by decide +kernel
theorem dX11_give_41 : decode cX11_give 41 = .ok (.iload_n 2, 1) := by decide +kernel
theorem dX11_give_42 : decode cX11_give 42 = .ok (.putfield 106, 3) := by decide +kernel
theorem dX11_give_45 : decode cX11_give 45 = .ok (.iload 4, 2) := by decide +kernel
theorem dX11_give_47 : decode cX11_give 47 = .ok (.ireturn, 1) := by decide +kernel
set_option maxRecDepth 20000 in
theorem ggX11_of_X10_isPerson : GoodIn wsX11_of wsX10_isPerson := goodIn_r _ [8, 9, 10, 11, 12, 30, 31, 32, 33, 34, 35, 36, 37, 38] (by decide +kernel) (by decide +kernel)
set_option maxRecDepth 20000 in
theorem gX11_of_X10_isPerson : GoodIn wsX11_of (wsV RX11 69 RX10 yX10_isPerson wsX10_isPerson) := goodIn_app (goodIn_of _ (by decide +kernel)) ggX11_of_X10_isPerson
set_option maxRecDepth 20000 in
theorem ggX11_of_X10_shoesOf : GoodIn wsX11_of wsX10_shoesOf := goodIn_r _ [16, 17, 18, 19, 20, 30, 31, 32, 33, 34, 35, 36, 37, 38, 39, 40, 41, 42, 43] (by decide +kernel) (by decide +kernel)
set_option maxRecDepth 20000 in
theorem gX11_of_X10_shoesOf : GoodIn wsX11_of (wsV RX11 116 RX10 yX10_shoesOf wsX10_shoesOf) := goodIn_app (goodIn_of _ (by decide +kernel)) ggX11_of_X10_shoesOf
theorem dX11_of_0 : decode cX11_of 0 = .ok (.aload_n 0, 1) := by decide +kernel
theorem dX11_of_1 : decode cX11_of 1 = .ok (.getfield 10, 3) := by decide +kernel
theorem dX11_of_4 : decode cX11_of 4 = .ok (.iload_n 1, 1) := by decide +kernel
theorem dX11_of_5 : decode cX11_of 5 = .ok (.invokevirtual 69, 3) := by decide +kernel
theorem dX11_of_8 : decode cX11_of 8 = .ok (.ifCond .ne 5, 3) := by decide +kernel
theorem dX11_of_11 : decode cX11_of 11 = .ok (.iconst (-1), 1) := by decide +kernel
theorem dX11_of_12 : decode cX11_of 12 = .ok (.ireturn, 1) := by decide +kernel
theorem dX11_of_13 : decode cX11_of 13 = .ok (.iload_n 2, 1) := by decide +kernel
theorem dX11_of_14 : decode cX11_of 14 = .ok (.tableswitch 70 0 3 #[30, 40, 50, 60], 30) := by decide +kernel
theorem dX11_of_44 : decode cX11_of 44 = .ok (.aload_n 0, 1) := by decide +kernel
theorem dX11_of_45 : decode cX11_of 45 = .ok (.getfield 10, 3) := by decide +kernel
theorem dX11_of_48 : decode cX11_of 48 = .ok (.getfield 109, 3) := by decide +kernel
theorem dX11_of_51 : decode cX11_of 51 = .ok (.iload_n 1, 1) := by decide +kernel
theorem dX11_of_52 : decode cX11_of 52 = .ok (.iaload, 1) := by decide +kernel
theorem dX11_of_53 : decode cX11_of 53 = .ok (.ireturn, 1) := by decide +kernel
theorem dX11_of_54 : decode cX11_of 54 = .ok (.aload_n 0, 1) := by decide +kernel
theorem dX11_of_55 : decode cX11_of 55 = .ok (.getfield 10, 3) := by decide +kernel
theorem dX11_of_58 : decode cX11_of 58 = .ok (.getfield 113, 3) := by decide +kernel
theorem dX11_of_61 : decode cX11_of 61 = .ok (.iload_n 1, 1) := by decide +kernel
theorem dX11_of_62 : decode cX11_of 62 = .ok (.iaload, 1) := by decide +kernel
theorem dX11_of_63 : decode cX11_of 63 = .ok (.ireturn, 1) := by decide +kernel
theorem dX11_of_64 : decode cX11_of 64 = .ok (.aload_n 0, 1) := by decide +kernel
theorem dX11_of_65 : decode cX11_of 65 = .ok (.getfield 10, 3) := by decide +kernel
theorem dX11_of_68 : decode cX11_of 68 = .ok (.iload_n 1, 1) := by decide +kernel
theorem dX11_of_69 : decode cX11_of 69 = .ok (.iconst 0, 1) := by decide +kernel
theorem dX11_of_70 : decode cX11_of 70 = .ok (.invokevirtual 116, 3) := by decide +kernel
theorem dX11_of_73 : decode cX11_of 73 = .ok (.ireturn, 1) := by decide +kernel
theorem dX11_of_74 : decode cX11_of 74 = .ok (.aload_n 0, 1) := by decide +kernel
theorem dX11_of_75 : decode cX11_of 75 = .ok (.getfield 10, 3) := by decide +kernel
theorem dX11_of_78 : decode cX11_of 78 = .ok (.iload_n 1, 1) := by decide +kernel
theorem dX11_of_79 : decode cX11_of 79 = .ok (.iconst 1, 1) := by decide +kernel
theorem dX11_of_80 : decode cX11_of 80 = .ok (.invokevirtual 116, 3) := by decide +kernel
theorem dX11_of_83 : decode cX11_of 83 = .ok (.ireturn, 1) := by decide +kernel
theorem dX11_of_84 : decode cX11_of 84 = .ok (.iconst (-1), 1) := by decide +kernel
theorem dX11_of_85 : decode cX11_of 85 = .ok (.ireturn, 1) := by decide +kernel
set_option maxRecDepth 20000 in
theorem ggX11_tax_X11_isSort : GoodIn wsX11_tax wsX11_isSort := goodIn_r _ [6, 7, 8, 5, 9] (by decide +kernel) (by decide +kernel)
set_option maxRecDepth 20000 in
theorem gX11_tax_X11_isSort : GoodIn wsX11_tax (va_wsS RX11 76 yX11_isSort wsX11_isSort) := goodIn_app (goodIn_of _ (by decide +kernel)) ggX11_tax_X11_isSort
set_option maxRecDepth 20000 in
theorem ggX11_tax_X11_isWithin : GoodIn wsX11_tax wsX11_isWithin := goodIn_r _ [9] (by decide +kernel) (by decide +kernel)
set_option maxRecDepth 20000 in
theorem gX11_tax_X11_isWithin : GoodIn wsX11_tax (va_wsS RX11 61 yX11_isWithin wsX11_isWithin) := goodIn_app (goodIn_of _ (by decide +kernel)) ggX11_tax_X11_isWithin
set_option maxRecDepth 20000 in
theorem ggX11_tax_X7_setRate : GoodIn wsX11_tax wsX7_setRate := goodIn_r _ [14, 15, 47, 48, 49] (by decide +kernel) (by decide +kernel)
set_option maxRecDepth 20000 in
theorem gX11_tax_X7_setRate : GoodIn wsX11_tax (wsV RX11 122 RX7 yX7_setRate wsX7_setRate) := goodIn_app (goodIn_of _ (by decide +kernel)) ggX11_tax_X7_setRate
set_option maxRecDepth 20000 in
theorem ggX11_tax_X7_setFine : GoodIn wsX11_tax wsX7_setFine := goodIn_r _ [19, 20, 47, 48, 49] (by decide +kernel) (by decide +kernel)
set_option maxRecDepth 20000 in
theorem gX11_tax_X7_setFine : GoodIn wsX11_tax (wsV RX11 125 RX7 yX7_setFine wsX7_setFine) := goodIn_app (goodIn_of _ (by decide +kernel)) ggX11_tax_X7_setFine
set_option maxRecDepth 20000 in
theorem ggX11_tax_X11_isFoot : GoodIn wsX11_tax wsX11_isFoot := goodIn_r _ [23, 7, 8, 5, 9] (by decide +kernel) (by decide +kernel)
set_option maxRecDepth 20000 in
theorem gX11_tax_X11_isFoot : GoodIn wsX11_tax (va_wsS RX11 73 yX11_isFoot wsX11_isFoot) := goodIn_app (goodIn_of _ (by decide +kernel)) ggX11_tax_X11_isFoot
set_option maxRecDepth 20000 in
theorem ggX11_tax_X7_setFoot : GoodIn wsX11_tax wsX7_setFoot := goodIn_r _ [27, 28, 47, 48, 49] (by decide +kernel) (by decide +kernel)
set_option maxRecDepth 20000 in
theorem gX11_tax_X7_setFoot : GoodIn wsX11_tax (wsV RX11 129 RX7 yX7_setFoot wsX7_setFoot) := goodIn_app (goodIn_of _ (by decide +kernel)) ggX11_tax_X7_setFoot
theorem dX11_tax_0 : decode cX11_tax 0 = .ok (.iload_n 1, 1) := by decide +kernel
theorem dX11_tax_1 : decode cX11_tax 1 = .ok (.invokestatic 76, 3) := by decide +kernel
theorem dX11_tax_4 : decode cX11_tax 4 = .ok (.ifCond .eq 30, 3) := by decide +kernel
theorem dX11_tax_7 : decode cX11_tax 7 = .ok (.iload_n 2, 1) := by decide +kernel
theorem dX11_tax_8 : decode cX11_tax 8 = .ok (.iconst 0, 1) := by decide +kernel
theorem dX11_tax_9 : decode cX11_tax 9 = .ok (.bipush 9, 2) := by decide +kernel
theorem dX11_tax_11 : decode cX11_tax 11 = .ok (.invokestatic 61, 3) := by decide +kernel
theorem dX11_tax_14 : decode cX11_tax 14 = .ok (.ifCond .eq 18, 3) := by decide +kernel
theorem dX11_tax_17 : decode cX11_tax 17 = .ok (.aload_n 0, 1) := by decide +kernel
theorem dX11_tax_18 : decode cX11_tax 18 = .ok (.getfield 10, 3) := by decide +kernel
theorem dX11_tax_21 : decode cX11_tax 21 = .ok (.getfield 119, 3) := by decide +kernel
theorem dX11_tax_24 : decode cX11_tax 24 = .ok (.iload_n 1, 1) := by decide +kernel
theorem dX11_tax_25 : decode cX11_tax 25 = .ok (.iload_n 2, 1) := by decide +kernel
theorem dX11_tax_26 : decode cX11_tax 26 = .ok (.invokevirtual 122, 3) := by decide +kernel
theorem dX11_tax_29 : decode cX11_tax 29 = .ok (.goto 4, 3) := by decide +kernel
theorem dX11_tax_32 : decode cX11_tax 32 = .ok (.iconst (-1), 1) := by decide +kernel
theorem dX11_tax_33 : decode cX11_tax 33 = .ok (.ireturn, 1) := by decide +kernel
theorem dX11_tax_34 : decode cX11_tax 34 = .ok (.iload_n 1, 1) := by decide +kernel
theorem dX11_tax_35 : decode cX11_tax 35 = .ok (.iconst 4, 1) := by decide +kernel
theorem dX11_tax_36 : decode cX11_tax 36 = .ok (.if_icmp .ne 29, 3) := by decide +kernel
theorem dX11_tax_39 : decode cX11_tax 39 = .ok (.iload_n 2, 1) := by decide +kernel
theorem dX11_tax_40 : decode cX11_tax 40 = .ok (.iconst 0, 1) := by decide +kernel
theorem dX11_tax_41 : decode cX11_tax 41 = .ok (.bipush 99, 2) := by decide +kernel
theorem dX11_tax_43 : decode cX11_tax 43 = .ok (.invokestatic 61, 3) := by decide +kernel
theorem dX11_tax_46 : decode cX11_tax 46 = .ok (.ifCond .eq 17, 3) := by decide +kernel
theorem dX11_tax_49 : decode cX11_tax 49 = .ok (.aload_n 0, 1) := by decide +kernel
theorem dX11_tax_50 : decode cX11_tax 50 = .ok (.getfield 10, 3) := by decide +kernel
theorem dX11_tax_53 : decode cX11_tax 53 = .ok (.getfield 119, 3) := by decide +kernel
theorem dX11_tax_56 : decode cX11_tax 56 = .ok (.iload_n 2, 1) := by decide +kernel
theorem dX11_tax_57 : decode cX11_tax 57 = .ok (.invokevirtual 125, 3) := by decide +kernel
theorem dX11_tax_60 : decode cX11_tax 60 = .ok (.goto 4, 3) := by decide +kernel
theorem dX11_tax_63 : decode cX11_tax 63 = .ok (.iconst (-1), 1) := by decide +kernel
theorem dX11_tax_64 : decode cX11_tax 64 = .ok (.ireturn, 1) := by decide +kernel
theorem dX11_tax_65 : decode cX11_tax 65 = .ok (.iload_n 1, 1) := by decide +kernel
theorem dX11_tax_66 : decode cX11_tax 66 = .ok (.iconst 5, 1) := by decide +kernel
theorem dX11_tax_67 : decode cX11_tax 67 = .ok (.if_icmp .ne 26, 3) := by decide +kernel
theorem dX11_tax_70 : decode cX11_tax 70 = .ok (.iload_n 2, 1) := by decide +kernel
theorem dX11_tax_71 : decode cX11_tax 71 = .ok (.invokestatic 73, 3) := by decide +kernel
theorem dX11_tax_74 : decode cX11_tax 74 = .ok (.ifCond .eq 17, 3) := by decide +kernel
theorem dX11_tax_77 : decode cX11_tax 77 = .ok (.aload_n 0, 1) := by decide +kernel
theorem dX11_tax_78 : decode cX11_tax 78 = .ok (.getfield 10, 3) := by decide +kernel
theorem dX11_tax_81 : decode cX11_tax 81 = .ok (.getfield 119, 3) := by decide +kernel
theorem dX11_tax_84 : decode cX11_tax 84 = .ok (.iload_n 2, 1) := by decide +kernel
theorem dX11_tax_85 : decode cX11_tax 85 = .ok (.invokevirtual 129, 3) := by decide +kernel
theorem dX11_tax_88 : decode cX11_tax 88 = .ok (.goto 4, 3) := by decide +kernel
theorem dX11_tax_91 : decode cX11_tax 91 = .ok (.iconst (-1), 1) := by decide +kernel
theorem dX11_tax_92 : decode cX11_tax 92 = .ok (.ireturn, 1) := by decide +kernel
theorem dX11_tax_93 : decode cX11_tax 93 = .ok (.iconst (-1), 1) := by decide +kernel
theorem dX11_tax_94 : decode cX11_tax 94 = .ok (.ireturn, 1) := by decide +kernel
set_option maxRecDepth 20000 in
theorem ggX11_road_X11_isMile : GoodIn wsX11_road wsX11_isMile := goodIn_r _ [6, 7, 8, 5, 9] (by decide +kernel) (by decide +kernel)
set_option maxRecDepth 20000 in
theorem gX11_road_X11_isMile : GoodIn wsX11_road (va_wsS RX11 132 yX11_isMile wsX11_isMile) := goodIn_app (goodIn_of _ (by decide +kernel)) ggX11_road_X11_isMile
set_option maxRecDepth 20000 in
theorem ggX11_road_X11_isWithin : GoodIn wsX11_road wsX11_isWithin := goodIn_r _ [9] (by decide +kernel) (by decide +kernel)
set_option maxRecDepth 20000 in
theorem gX11_road_X11_isWithin : GoodIn wsX11_road (va_wsS RX11 61 yX11_isWithin wsX11_isWithin) := goodIn_app (goodIn_of _ (by decide +kernel)) ggX11_road_X11_isWithin
set_option maxRecDepth 20000 in
theorem ggX11_road_X3_setMud : GoodIn wsX11_road wsX3_setMud := goodIn_r _ [14, 15, 39, 40] (by decide +kernel) (by decide +kernel)
set_option maxRecDepth 20000 in
theorem gX11_road_X3_setMud : GoodIn wsX11_road (wsV RX11 138 RX3 yX3_setMud wsX3_setMud) := goodIn_app (goodIn_of _ (by decide +kernel)) ggX11_road_X3_setMud
set_option maxRecDepth 20000 in
theorem ggX11_road_X3_setWatched : GoodIn wsX11_road wsX3_setWatched := goodIn_r _ [19, 20, 39, 40] (by decide +kernel) (by decide +kernel)
set_option maxRecDepth 20000 in
theorem gX11_road_X3_setWatched : GoodIn wsX11_road (wsV RX11 141 RX3 yX3_setWatched wsX3_setWatched) := goodIn_app (goodIn_of _ (by decide +kernel)) ggX11_road_X3_setWatched
theorem dX11_road_0 : decode cX11_road 0 = .ok (.iload_n 1, 1) := by decide +kernel
theorem dX11_road_1 : decode cX11_road 1 = .ok (.invokestatic 132, 3) := by decide +kernel
theorem dX11_road_4 : decode cX11_road 4 = .ok (.ifCond .ne 5, 3) := by decide +kernel
theorem dX11_road_7 : decode cX11_road 7 = .ok (.iconst (-1), 1) := by decide +kernel
theorem dX11_road_8 : decode cX11_road 8 = .ok (.ireturn, 1) := by decide +kernel
theorem dX11_road_9 : decode cX11_road 9 = .ok (.iload_n 2, 1) := by decide +kernel
theorem dX11_road_10 : decode cX11_road 10 = .ok (.ifCond .ne 30, 3) := by decide +kernel
theorem dX11_road_13 : decode cX11_road 13 = .ok (.iload_n 3, 1) := by decide +kernel
theorem dX11_road_14 : decode cX11_road 14 = .ok (.iconst 0, 1) := by decide +kernel
theorem dX11_road_15 : decode cX11_road 15 = .ok (.bipush 9, 2) := by decide +kernel
theorem dX11_road_17 : decode cX11_road 17 = .ok (.invokestatic 61, 3) := by decide +kernel
theorem dX11_road_20 : decode cX11_road 20 = .ok (.ifCond .eq 18, 3) := by decide +kernel
theorem dX11_road_23 : decode cX11_road 23 = .ok (.aload_n 0, 1) := by decide +kernel
theorem dX11_road_24 : decode cX11_road 24 = .ok (.getfield 10, 3) := by decide +kernel
theorem dX11_road_27 : decode cX11_road 27 = .ok (.getfield 135, 3) := by decide +kernel
theorem dX11_road_30 : decode cX11_road 30 = .ok (.iload_n 1, 1) := by decide +kernel
theorem dX11_road_31 : decode cX11_road 31 = .ok (.iload_n 3, 1) := by decide +kernel
theorem dX11_road_32 : decode cX11_road 32 = .ok (.invokevirtual 138, 3) := by decide +kernel
theorem dX11_road_35 : decode cX11_road 35 = .ok (.goto 4, 3) := by decide +kernel
theorem dX11_road_38 : decode cX11_road 38 = .ok (.iconst (-1), 1) := by decide +kernel
theorem dX11_road_39 : decode cX11_road 39 = .ok (.ireturn, 1) := by decide +kernel
theorem dX11_road_40 : decode cX11_road 40 = .ok (.iload_n 2, 1) := by decide +kernel
theorem dX11_road_41 : decode cX11_road 41 = .ok (.iconst 1, 1) := by decide +kernel
theorem dX11_road_42 : decode cX11_road 42 = .ok (.if_icmp .ne 30, 3) := by decide +kernel
theorem dX11_road_45 : decode cX11_road 45 = .ok (.iload_n 3, 1) := by decide +kernel
theorem dX11_road_46 : decode cX11_road 46 = .ok (.iconst 0, 1) := by decide +kernel
theorem dX11_road_47 : decode cX11_road 47 = .ok (.bipush 16, 2) := by decide +kernel
theorem dX11_road_49 : decode cX11_road 49 = .ok (.invokestatic 61, 3) := by decide +kernel
theorem dX11_road_52 : decode cX11_road 52 = .ok (.ifCond .eq 18, 3) := by decide +kernel
theorem dX11_road_55 : decode cX11_road 55 = .ok (.aload_n 0, 1) := by decide +kernel
theorem dX11_road_56 : decode cX11_road 56 = .ok (.getfield 10, 3) := by decide +kernel
theorem dX11_road_59 : decode cX11_road 59 = .ok (.getfield 135, 3) := by decide +kernel
theorem dX11_road_62 : decode cX11_road 62 = .ok (.iload_n 1, 1) := by decide +kernel
theorem dX11_road_63 : decode cX11_road 63 = .ok (.iload_n 3, 1) := by decide +kernel
theorem dX11_road_64 : decode cX11_road 64 = .ok (.invokevirtual 141, 3) := by decide +kernel
theorem dX11_road_67 : decode cX11_road 67 = .ok (.goto 4, 3) := by decide +kernel
theorem dX11_road_70 : decode cX11_road 70 = .ok (.iconst (-1), 1) := by decide +kernel
theorem dX11_road_71 : decode cX11_road 71 = .ok (.ireturn, 1) := by decide +kernel
theorem dX11_road_72 : decode cX11_road 72 = .ok (.iconst (-1), 1) := by decide +kernel
theorem dX11_road_73 : decode cX11_road 73 = .ok (.ireturn, 1) := by decide +kernel
set_option maxRecDepth 20000 in
theorem ggX11_type_X11_isWithin : GoodIn wsX11_type wsX11_isWithin := goodIn_r _ [5] (by decide +kernel) (by decide +kernel)
set_option maxRecDepth 20000 in
theorem gX11_type_X11_isWithin : GoodIn wsX11_type (va_wsS RX11 61 yX11_isWithin wsX11_isWithin) := goodIn_app (goodIn_of _ (by decide +kernel)) ggX11_type_X11_isWithin
set_option maxRecDepth 20000 in
theorem ggX11_type_X6_isClean : GoodIn wsX11_type wsX6_isClean := goodIn_r _ [9, 10, 11, 8, 12, 13, 3, 4, 5] (by decide +kernel) (by decide +kernel)
set_option maxRecDepth 20000 in
theorem gX11_type_X6_isClean : GoodIn wsX11_type (va_wsS RX11 144 yX6_isClean wsX6_isClean) := goodIn_app (goodIn_of _ (by decide +kernel)) ggX11_type_X6_isClean
set_option maxRecDepth 20000 in
theorem ggX11_type_X6_append : GoodIn wsX11_type wsX6_append := goodIn_r _ [17, 18, 19, 10, 11, 8, 12, 13, 29, 30, 31] (by decide +kernel) (by decide +kernel)
set_option maxRecDepth 20000 in
theorem gX11_type_X6_append : GoodIn wsX11_type (wsV RX11 148 RX6 yX6_append wsX6_append) := goodIn_app (goodIn_of _ (by decide +kernel)) ggX11_type_X6_append
theorem dX11_type_0 : decode cX11_type 0 = .ok (.iload_n 3, 1) := by decide +kernel
theorem dX11_type_1 : decode cX11_type 1 = .ok (.iconst 1, 1) := by decide +kernel
theorem dX11_type_2 : decode cX11_type 2 = .ok (.bipush 8, 2) := by decide +kernel
theorem dX11_type_4 : decode cX11_type 4 = .ok (.invokestatic 61, 3) := by decide +kernel
theorem dX11_type_7 : decode cX11_type 7 = .ok (.ifCond .eq 11, 3) := by decide +kernel
theorem dX11_type_10 : decode cX11_type 10 = .ok (.lload_n 1, 1) := by decide +kernel
theorem dX11_type_11 : decode cX11_type 11 = .ok (.iload_n 3, 1) := by decide +kernel
theorem dX11_type_12 : decode cX11_type 12 = .ok (.invokestatic 144, 3) := by decide +kernel
theorem dX11_type_15 : decode cX11_type 15 = .ok (.ifCond .ne 5, 3) := by decide +kernel
theorem dX11_type_18 : decode cX11_type 18 = .ok (.iconst (-1), 1) := by decide +kernel
theorem dX11_type_19 : decode cX11_type 19 = .ok (.ireturn, 1) := by decide +kernel
theorem dX11_type_20 : decode cX11_type 20 = .ok (.aload_n 0, 1) := by decide +kernel
theorem dX11_type_21 : decode cX11_type 21 = .ok (.getfield 22, 3) := by decide +kernel
theorem dX11_type_24 : decode cX11_type 24 = .ok (.lload_n 1, 1) := by decide +kernel
theorem dX11_type_25 : decode cX11_type 25 = .ok (.iload_n 3, 1) := by decide +kernel
theorem dX11_type_26 : decode cX11_type 26 = .ok (.invokevirtual 148, 3) := by decide +kernel
theorem dX11_type_29 : decode cX11_type 29 = .ok (.ireturn, 1) := by decide +kernel
set_option maxRecDepth 20000 in
theorem ggX11_taxes_X7_become : GoodIn wsX11_taxes wsX7_become := goodIn_r _ [9, 10, 11, 12, 13, 14, 15, 16, 79, 80, 81] (by decide +kernel) (by decide +kernel)
set_option maxRecDepth 20000 in
theorem gX11_taxes_X7_become : GoodIn wsX11_taxes (wsV RX11 152 RX7 yX7_become wsX7_become) := goodIn_app (goodIn_of _ (by decide +kernel)) ggX11_taxes_X7_become
set_option maxRecDepth 20000 in
theorem ggX11_taxes_X6_readTax : GoodIn wsX11_taxes wsX6_readTax := goodIn_r _ [21, 22, 23, 24, 25, 26, 27, 20, 28, 29, 30, 31, 32, 33, 34, 35, 36, 37, 38, 39, 40, 41, 42, 43, 44, 45, 46, 47, 48, 49, 50, 51, 52, 53, 54, 55, 56, 82, 83, 84, 79, 80, 81] (by decide +kernel) (by decide +kernel)
set_option maxRecDepth 20000 in
theorem gX11_taxes_X6_readTax : GoodIn wsX11_taxes (wsV RX11 156 RX6 yX6_readTax wsX6_readTax) := goodIn_app (goodIn_of _ (by decide +kernel)) ggX11_taxes_X6_readTax
set_option maxRecDepth 20000 in
theorem ggX11_taxes_X6_clear : GoodIn wsX11_taxes wsX6_clear := goodIn_r _ [60, 29, 82, 83, 84] (by decide +kernel) (by decide +kernel)
set_option maxRecDepth 20000 in
theorem gX11_taxes_X6_clear : GoodIn wsX11_taxes (wsV RX11 160 RX6 yX6_clear wsX6_clear) := goodIn_app (goodIn_of _ (by decide +kernel)) ggX11_taxes_X6_clear
theorem dX11_taxes_0 : decode cX11_taxes 0 = .ok (.aload_n 0, 1) := by decide +kernel
theorem dX11_taxes_1 : decode cX11_taxes 1 = .ok (.getfield 29, 3) := by decide +kernel
theorem dX11_taxes_4 : decode cX11_taxes 4 = .ok (.aload_n 0, 1) := by decide +kernel
theorem dX11_taxes_5 : decode cX11_taxes 5 = .ok (.getfield 10, 3) := by decide +kernel
theorem dX11_taxes_8 : decode cX11_taxes 8 = .ok (.getfield 119, 3) := by decide +kernel
theorem dX11_taxes_11 : decode cX11_taxes 11 = .ok (.invokevirtual 152, 3) := by decide +kernel
theorem dX11_taxes_14 : decode cX11_taxes 14 = .ok (.aload_n 0, 1) := by decide +kernel
theorem dX11_taxes_15 : decode cX11_taxes 15 = .ok (.getfield 22, 3) := by decide +kernel
theorem dX11_taxes_18 : decode cX11_taxes 18 = .ok (.aload_n 0, 1) := by decide +kernel
theorem dX11_taxes_19 : decode cX11_taxes 19 = .ok (.getfield 29, 3) := by decide +kernel
theorem dX11_taxes_22 : decode cX11_taxes 22 = .ok (.invokevirtual 156, 3) := by decide +kernel
theorem dX11_taxes_25 : decode cX11_taxes 25 = .ok (.istore_n 1, 1) := by decide +kernel
theorem dX11_taxes_26 : decode cX11_taxes 26 = .ok (.aload_n 0, 1) := by decide +kernel
theorem dX11_taxes_27 : decode cX11_taxes 27 = .ok (.getfield 22, 3) := by decide +kernel
theorem dX11_taxes_30 : decode cX11_taxes 30 = .ok (.invokevirtual 160, 3) := by decide +kernel
theorem dX11_taxes_33 : decode cX11_taxes 33 = .ok (.iload_n 1, 1) := by decide +kernel
theorem dX11_taxes_34 : decode cX11_taxes 34 = .ok (.ifCond .lt 17, 3) := by decide +kernel
theorem dX11_taxes_37 : decode cX11_taxes 37 = .ok (.aload_n 0, 1) := by decide +kernel
theorem dX11_taxes_38 : decode cX11_taxes 38 = .ok (.getfield 10, 3) := by decide +kernel
theorem dX11_taxes_41 : decode cX11_taxes 41 = .ok (.getfield 119, 3) := by decide +kernel
theorem dX11_taxes_44 : decode cX11_taxes 44 = .ok (.aload_n 0, 1) := by decide +kernel
theorem dX11_taxes_45 : decode cX11_taxes 45 = .ok (.getfield 29, 3) := by decide +kernel
theorem dX11_taxes_48 : decode cX11_taxes 48 = .ok (.invokevirtual 152, 3) := by decide +kernel
theorem dX11_taxes_51 : decode cX11_taxes 51 = .ok (.iload_n 1, 1) := by decide +kernel
theorem dX11_taxes_52 : decode cX11_taxes 52 = .ok (.ireturn, 1) := by decide +kernel
set_option maxRecDepth 20000 in
theorem ggX11_roads_X6_readRoad : GoodIn wsX11_roads wsX6_readRoad := goodIn_r _ [9, 10, 11, 12, 13, 8, 14, 15, 16, 17, 18, 19, 20, 21, 22, 23, 24, 25, 26, 27, 28, 29, 30, 31, 32, 33, 34, 35, 36, 37, 38, 39, 40, 41, 42, 43, 44, 45, 46, 78, 79, 80, 81, 82] (by decide +kernel) (by decide +kernel)
set_option maxRecDepth 20000 in
theorem gX11_roads_X6_readRoad : GoodIn wsX11_roads (wsV RX11 163 RX6 yX6_readRoad wsX6_readRoad) := goodIn_app (goodIn_of _ (by decide +kernel)) ggX11_roads_X6_readRoad
set_option maxRecDepth 20000 in
theorem ggX11_roads_X6_clear : GoodIn wsX11_roads wsX6_clear := goodIn_r _ [50, 15, 78, 79, 80] (by decide +kernel) (by decide +kernel)
set_option maxRecDepth 20000 in
theorem gX11_roads_X6_clear : GoodIn wsX11_roads (wsV RX11 160 RX6 yX6_clear wsX6_clear) := goodIn_app (goodIn_of _ (by decide +kernel)) ggX11_roads_X6_clear
set_option maxRecDepth 20000 in
theorem ggX11_roads_X3_become : GoodIn wsX11_roads wsX3_become := goodIn_r _ [54, 46, 55, 56, 57, 58, 59, 81, 82] (by decide +kernel) (by decide +kernel)
set_option maxRecDepth 20000 in
theorem gX11_roads_X3_become : GoodIn wsX11_roads (wsV RX11 167 RX3 yX3_become wsX3_become) := goodIn_app (goodIn_of _ (by decide +kernel)) ggX11_roads_X3_become
theorem dX11_roads_0 : decode cX11_roads 0 = .ok (.aload_n 0, 1) := by decide +kernel
theorem dX11_roads_1 : decode cX11_roads 1 = .ok (.getfield 22, 3) := by decide +kernel
theorem dX11_roads_4 : decode cX11_roads 4 = .ok (.aload_n 0, 1) := by decide +kernel
theorem dX11_roads_5 : decode cX11_roads 5 = .ok (.getfield 36, 3) := by decide +kernel
theorem dX11_roads_8 : decode cX11_roads 8 = .ok (.invokevirtual 163, 3) := by decide +kernel
theorem dX11_roads_11 : decode cX11_roads 11 = .ok (.istore_n 1, 1) := by decide +kernel
theorem dX11_roads_12 : decode cX11_roads 12 = .ok (.aload_n 0, 1) := by decide +kernel
theorem dX11_roads_13 : decode cX11_roads 13 = .ok (.getfield 22, 3) := by decide +kernel
theorem dX11_roads_16 : decode cX11_roads 16 = .ok (.invokevirtual 160, 3) := by decide +kernel
theorem dX11_roads_19 : decode cX11_roads 19 = .ok (.iload_n 1, 1) := by decide +kernel
theorem dX11_roads_20 : decode cX11_roads 20 = .ok (.ifCond .lt 17, 3) := by decide +kernel
theorem dX11_roads_23 : decode cX11_roads 23 = .ok (.aload_n 0, 1) := by decide +kernel
theorem dX11_roads_24 : decode cX11_roads 24 = .ok (.getfield 10, 3) := by decide +kernel
theorem dX11_roads_27 : decode cX11_roads 27 = .ok (.getfield 135, 3) := by decide +kernel
theorem dX11_roads_30 : decode cX11_roads 30 = .ok (.aload_n 0, 1) := by decide +kernel
theorem dX11_roads_31 : decode cX11_roads 31 = .ok (.getfield 36, 3) := by decide +kernel
theorem dX11_roads_34 : decode cX11_roads 34 = .ok (.invokevirtual 167, 3) := by decide +kernel
theorem dX11_roads_37 : decode cX11_roads 37 = .ok (.iload_n 1, 1) := by decide +kernel
theorem dX11_roads_38 : decode cX11_roads 38 = .ok (.ireturn, 1) := by decide +kernel
set_option maxRecDepth 20000 in
theorem ggX11_count_X10_stampedShoes : GoodIn wsX11_count wsX10_stampedShoes := goodIn_r _ [11, 12, 13, 14, 46, 47, 48, 49, 50, 51, 52, 53, 54, 61, 62, 63, 64, 65] (by decide +kernel) (by decide +kernel)
set_option maxRecDepth 20000 in
theorem gX11_count_X10_stampedShoes : GoodIn wsX11_count (wsV RX11 176 RX10 yX10_stampedShoes wsX10_stampedShoes) := goodIn_app (goodIn_of _ (by decide +kernel)) ggX11_count_X10_stampedShoes
set_option maxRecDepth 20000 in
theorem ggX11_count_X10_solesOfAll : GoodIn wsX11_count wsX10_solesOfAll := goodIn_r _ [18, 12, 13, 19, 46, 47, 48, 49, 50, 51, 52, 53, 54, 61, 62, 63, 64, 65] (by decide +kernel) (by decide +kernel)
set_option maxRecDepth 20000 in
theorem gX11_count_X10_solesOfAll : GoodIn wsX11_count (wsV RX11 180 RX10 yX10_solesOfAll wsX10_solesOfAll) := goodIn_app (goodIn_of _ (by decide +kernel)) ggX11_count_X10_solesOfAll
set_option maxRecDepth 20000 in
theorem ggX11_count_X2_joined : GoodIn wsX11_count wsX2_joined := goodIn_r _ [24, 25, 26, 27, 23, 28, 29, 30, 31, 32, 33, 34, 35, 36, 66, 67, 68, 69, 70] (by decide +kernel) (by decide +kernel)
set_option maxRecDepth 20000 in
theorem gX11_count_X2_joined : GoodIn wsX11_count (wsV RX11 196 RX2 yX2_joined wsX2_joined) := goodIn_app (goodIn_of _ (by decide +kernel)) ggX11_count_X2_joined
theorem dX11_count_0 : decode cX11_count 0 = .ok (.iload_n 1, 1) := by decide +kernel
theorem dX11_count_1 : decode cX11_count 1 = .ok (.tableswitch 93 0 5 #[39, 47, 55, 63, 71, 82], 39) := by decide +kernel
theorem dX11_count_40 : decode cX11_count 40 = .ok (.aload_n 0, 1) := by decide +kernel
theorem dX11_count_41 : decode cX11_count 41 = .ok (.getfield 10, 3) := by decide +kernel
theorem dX11_count_44 : decode cX11_count 44 = .ok (.getfield 170, 3) := by decide +kernel
theorem dX11_count_47 : decode cX11_count 47 = .ok (.ireturn, 1) := by decide +kernel
theorem dX11_count_48 : decode cX11_count 48 = .ok (.aload_n 0, 1) := by decide +kernel
theorem dX11_count_49 : decode cX11_count 49 = .ok (.getfield 10, 3) := by decide +kernel
theorem dX11_count_52 : decode cX11_count 52 = .ok (.getfield 173, 3) := by decide +kernel
theorem dX11_count_55 : decode cX11_count 55 = .ok (.ireturn, 1) := by decide +kernel
theorem dX11_count_56 : decode cX11_count 56 = .ok (.aload_n 0, 1) := by decide +kernel
theorem dX11_count_57 : decode cX11_count 57 = .ok (.getfield 10, 3) := by decide +kernel
theorem dX11_count_60 : decode cX11_count 60 = .ok (.invokevirtual 176, 3) := by decide +kernel
theorem dX11_count_63 : decode cX11_count 63 = .ok (.ireturn, 1) := by decide +kernel
theorem dX11_count_64 : decode cX11_count 64 = .ok (.aload_n 0, 1) := by decide +kernel
theorem dX11_count_65 : decode cX11_count 65 = .ok (.getfield 10, 3) := by decide +kernel
theorem dX11_count_68 : decode cX11_count 68 = .ok (.invokevirtual 180, 3) := by decide +kernel
theorem dX11_count_71 : decode cX11_count 71 = .ok (.ireturn, 1) := by decide +kernel
theorem dX11_count_72 : decode cX11_count 72 = .ok (.aload_n 0, 1) := by decide +kernel
theorem dX11_count_73 : decode cX11_count 73 = .ok (.getfield 10, 3) := by decide +kernel
theorem dX11_count_76 : decode cX11_count 76 = .ok (.getfield 183, 3) := by decide +kernel
theorem dX11_count_79 : decode cX11_count 79 = .ok (.getfield 187, 3) := by decide +kernel
theorem dX11_count_82 : decode cX11_count 82 = .ok (.ireturn, 1) := by decide +kernel
theorem dX11_count_83 : decode cX11_count 83 = .ok (.aload_n 0, 1) := by decide +kernel
theorem dX11_count_84 : decode cX11_count 84 = .ok (.getfield 10, 3) := by decide +kernel
theorem dX11_count_87 : decode cX11_count 87 = .ok (.getfield 192, 3) := by decide +kernel
theorem dX11_count_90 : decode cX11_count 90 = .ok (.invokevirtual 196, 3) := by decide +kernel
theorem dX11_count_93 : decode cX11_count 93 = .ok (.ireturn, 1) := by decide +kernel
theorem dX11_count_94 : decode cX11_count 94 = .ok (.iconst (-1), 1) := by decide +kernel
theorem dX11_count_95 : decode cX11_count 95 = .ok (.ireturn, 1) := by decide +kernel
set_option maxRecDepth 20000 in
theorem ggX11_minutes_X11_isMile : GoodIn wsX11_minutes wsX11_isMile := goodIn_r _ [5, 6, 7, 4, 8] (by decide +kernel) (by decide +kernel)
set_option maxRecDepth 20000 in
theorem gX11_minutes_X11_isMile : GoodIn wsX11_minutes (va_wsS RX11 132 yX11_isMile wsX11_isMile) := goodIn_app (goodIn_of _ (by decide +kernel)) ggX11_minutes_X11_isMile
set_option maxRecDepth 20000 in
theorem ggX11_minutes_X10_isGoingWith : GoodIn wsX11_minutes wsX10_isGoingWith := goodIn_r _ [13, 14, 15, 16, 17, 18, 12, 19, 20, 21, 22, 23, 24, 25, 26, 7, 4, 8, 54, 55, 56, 57, 58, 59, 60, 61, 62, 63, 64, 65, 66, 67, 68, 69, 70] (by decide +kernel) (by decide +kernel)
set_option maxRecDepth 20000 in
theorem gX11_minutes_X10_isGoingWith : GoodIn wsX11_minutes (wsV RX11 201 RX10 yX10_isGoingWith wsX10_isGoingWith) := goodIn_app (goodIn_of _ (by decide +kernel)) ggX11_minutes_X10_isGoingWith
set_option maxRecDepth 20000 in
theorem ggX11_minutes_X10_shoeOrNull : GoodIn wsX11_minutes wsX10_shoeOrNull := goodIn_r _ [30, 20, 22, 23, 24, 12, 25, 26, 7, 4, 8, 54, 55, 56, 57, 58, 59, 60, 61, 62] (by decide +kernel) (by decide +kernel)
set_option maxRecDepth 20000 in
theorem gX11_minutes_X10_shoeOrNull : GoodIn wsX11_minutes (wsV RX11 204 RX10 yX10_shoeOrNull wsX10_shoeOrNull) := goodIn_app (goodIn_of _ (by decide +kernel)) ggX11_minutes_X10_shoeOrNull
set_option maxRecDepth 20000 in
theorem ggX11_minutes_X10_minutesOf : GoodIn wsX11_minutes wsX10_minutesOf := goodIn_r _ [34, 35, 36, 37, 38, 39, 40, 41, 42, 43, 44, 54, 55, 56, 57, 58, 59, 60, 61, 62, 71, 72, 66, 67, 68, 69, 70] (by decide +kernel) (by decide +kernel)
set_option maxRecDepth 20000 in
theorem gX11_minutes_X10_minutesOf : GoodIn wsX11_minutes (wsV RX11 208 RX10 yX10_minutesOf wsX10_minutesOf) := goodIn_app (goodIn_of _ (by decide +kernel)) ggX11_minutes_X10_minutesOf
theorem dX11_minutes_0 : decode cX11_minutes 0 = .ok (.iload_n 2, 1) := by decide +kernel
theorem dX11_minutes_1 : decode cX11_minutes 1 = .ok (.invokestatic 132, 3) := by decide +kernel
theorem dX11_minutes_4 : decode cX11_minutes 4 = .ok (.ifCond .eq 17, 3) := by decide +kernel
theorem dX11_minutes_7 : decode cX11_minutes 7 = .ok (.aload_n 0, 1) := by decide +kernel
theorem dX11_minutes_8 : decode cX11_minutes 8 = .ok (.getfield 10, 3) := by decide +kernel
theorem dX11_minutes_11 : decode cX11_minutes 11 = .ok (.iload_n 1, 1) := by decide +kernel
theorem dX11_minutes_12 : decode cX11_minutes 12 = .ok (.iload_n 3, 1) := by decide +kernel
theorem dX11_minutes_13 : decode cX11_minutes 13 = .ok (.iload 4, 2) := by decide +kernel
theorem dX11_minutes_15 : decode cX11_minutes 15 = .ok (.invokevirtual 201, 3) := by decide +kernel
theorem dX11_minutes_18 : decode cX11_minutes 18 = .ok (.ifCond .ne 5, 3) := by decide +kernel
theorem dX11_minutes_21 : decode cX11_minutes 21 = .ok (.iconst (-1), 1) := by decide +kernel
theorem dX11_minutes_22 : decode cX11_minutes 22 = .ok (.ireturn, 1) := by decide +kernel
theorem dX11_minutes_23 : decode cX11_minutes 23 = .ok (.aload_n 0, 1) := by decide +kernel
theorem dX11_minutes_24 : decode cX11_minutes 24 = .ok (.getfield 10, 3) := by decide +kernel
theorem dX11_minutes_27 : decode cX11_minutes 27 = .ok (.iload_n 1, 1) := by decide +kernel
theorem dX11_minutes_28 : decode cX11_minutes 28 = .ok (.iload_n 2, 1) := by decide +kernel
theorem dX11_minutes_29 : decode cX11_minutes 29 = .ok (.aload_n 0, 1) := by decide +kernel
theorem dX11_minutes_30 : decode cX11_minutes 30 = .ok (.getfield 10, 3) := by decide +kernel
theorem dX11_minutes_33 : decode cX11_minutes 33 = .ok (.iload_n 3, 1) := by decide +kernel
theorem dX11_minutes_34 : decode cX11_minutes 34 = .ok (.invokevirtual 204, 3) := by decide +kernel
theorem dX11_minutes_37 : decode cX11_minutes 37 = .ok (.aload_n 0, 1) := by decide +kernel
theorem dX11_minutes_38 : decode cX11_minutes 38 = .ok (.getfield 10, 3) := by decide +kernel
theorem dX11_minutes_41 : decode cX11_minutes 41 = .ok (.iload 4, 2) := by decide +kernel
theorem dX11_minutes_43 : decode cX11_minutes 43 = .ok (.invokevirtual 204, 3) := by decide +kernel
theorem dX11_minutes_46 : decode cX11_minutes 46 = .ok (.invokevirtual 208, 3) := by decide +kernel
theorem dX11_minutes_49 : decode cX11_minutes 49 = .ok (.ireturn, 1) := by decide +kernel
set_option maxRecDepth 20000 in
theorem ggX11_cheapest_X11_isWithin : GoodIn wsX11_cheapest wsX11_isWithin := goodIn_r _ [10] (by decide +kernel) (by decide +kernel)
set_option maxRecDepth 20000 in
theorem gX11_cheapest_X11_isWithin : GoodIn wsX11_cheapest (va_wsS RX11 61 yX11_isWithin wsX11_isWithin) := goodIn_app (goodIn_of _ (by decide +kernel)) ggX11_cheapest_X11_isWithin
set_option maxRecDepth 20000 in
theorem ggX11_cheapest_X11_isWalk : GoodIn wsX11_cheapest wsX11_isWalk := goodIn_r _ [14, 2, 7, 8, 9, 10, 15, 16, 17, 18, 19, 20, 21, 22, 23, 24, 25, 26, 27, 28, 29, 30, 31, 32, 33, 34, 35, 36, 37, 38, 39, 40, 41, 42, 43, 176, 177, 178, 179, 180, 181, 182, 183, 184, 185, 186, 187, 188, 189, 190, 191, 192, 193, 213, 214, 215, 216, 217, 218, 219, 220] (by decide +kernel) (by decide +kernel)
set_option maxRecDepth 20000 in
theorem gX11_cheapest_X11_isWalk : GoodIn wsX11_cheapest (wsV RX11 212 RX11 yX11_isWalk wsX11_isWalk) := goodIn_app (goodIn_of _ (by decide +kernel)) ggX11_cheapest_X11_isWalk
set_option maxRecDepth 20000 in
theorem ggX11_cheapest_X9_search : GoodIn wsX11_cheapest wsX9_search := goodIn_r _ [48, 49, 50, 51, 52, 53, 54, 55, 56, 57, 58, 18, 59, 32, 39, 40, 41, 42, 43, 8, 9, 10, 60, 61, 62, 63, 64, 65, 66, 67, 68, 47, 69, 70, 71, 72, 73, 74, 75, 76, 77, 78, 79, 80, 81, 82, 83, 84, 85, 86, 87, 88, 89, 90, 91, 92, 93, 94, 95, 96, 97, 98, 99, 100, 26, 101, 102, 103, 104, 105, 106, 107, 108, 109, 110, 111, 112, 113, 114, 115, 116, 117, 118, 119, 120, 121, 122, 123, 124, 125, 126, 127, 128, 129, 130, 131, 132, 133, 134, 135, 136, 137, 138, 139, 140, 141, 142, 143, 144, 145, 146, 147, 148, 149, 150, 151, 152, 153, 154, 155, 156, 157, 158, 159, 160, 161, 162, 163, 164, 165, 166, 167, 168, 169, 170, 171, 172, 173, 174, 175, 194, 195, 196, 197, 198, 199, 200, 201, 202, 203, 204, 205, 206, 207, 208, 209, 210, 211, 212, 185, 186, 187, 188, 189, 190, 191, 192, 193, 221, 222, 223, 224, 216, 217, 218, 219, 220, 225, 226, 213, 214, 215] (by decide +kernel) (by decide +kernel)
set_option maxRecDepth 20000 in
theorem gX11_cheapest_X9_search : GoodIn wsX11_cheapest (wsV RX11 216 RX9 yX9_search wsX9_search) := goodIn_app (goodIn_of _ (by decide +kernel)) ggX11_cheapest_X9_search
theorem dX11_cheapest_0 : decode cX11_cheapest 0 = .ok (.iload 6, 2) := by decide +kernel
theorem dX11_cheapest_2 : decode cX11_cheapest 2 = .ok (.bipush (-2), 2) := by decide +kernel
theorem dX11_cheapest_4 : decode cX11_cheapest 4 = .ok (.bipush 8, 2) := by decide +kernel
theorem dX11_cheapest_6 : decode cX11_cheapest 6 = .ok (.invokestatic 61, 3) := by decide +kernel
theorem dX11_cheapest_9 : decode cX11_cheapest 9 = .ok (.ifCond .eq 17, 3) := by decide +kernel
theorem dX11_cheapest_12 : decode cX11_cheapest 12 = .ok (.aload_n 0, 1) := by decide +kernel
theorem dX11_cheapest_13 : decode cX11_cheapest 13 = .ok (.iload_n 1, 1) := by decide +kernel
theorem dX11_cheapest_14 : decode cX11_cheapest 14 = .ok (.iload_n 2, 1) := by decide +kernel
theorem dX11_cheapest_15 : decode cX11_cheapest 15 = .ok (.iload_n 3, 1) := by decide +kernel
theorem dX11_cheapest_16 : decode cX11_cheapest 16 = .ok (.iload 4, 2) := by decide +kernel
theorem dX11_cheapest_18 : decode cX11_cheapest 18 = .ok (.iload 5, 2) := by decide +kernel
theorem dX11_cheapest_20 : decode cX11_cheapest 20 = .ok (.invokevirtual 212, 3) := by decide +kernel
theorem dX11_cheapest_23 : decode cX11_cheapest 23 = .ok (.ifCond .ne 5, 3) := by decide +kernel
theorem dX11_cheapest_26 : decode cX11_cheapest 26 = .ok (.iconst (-1), 1) := by decide +kernel
theorem dX11_cheapest_27 : decode cX11_cheapest 27 = .ok (.ireturn, 1) := by decide +kernel
theorem dX11_cheapest_28 : decode cX11_cheapest 28 = .ok (.aload_n 0, 1) := by decide +kernel
theorem dX11_cheapest_29 : decode cX11_cheapest 29 = .ok (.getfield 43, 3) := by decide +kernel
theorem dX11_cheapest_32 : decode cX11_cheapest 32 = .ok (.aload_n 0, 1) := by decide +kernel
theorem dX11_cheapest_33 : decode cX11_cheapest 33 = .ok (.getfield 10, 3) := by decide +kernel
theorem dX11_cheapest_36 : decode cX11_cheapest 36 = .ok (.aload_n 0, 1) := by decide +kernel
theorem dX11_cheapest_37 : decode cX11_cheapest 37 = .ok (.getfield 10, 3) := by decide +kernel
theorem dX11_cheapest_40 : decode cX11_cheapest 40 = .ok (.getfield 113, 3) := by decide +kernel
theorem dX11_cheapest_43 : decode cX11_cheapest 43 = .ok (.iload_n 1, 1) := by decide +kernel
theorem dX11_cheapest_44 : decode cX11_cheapest 44 = .ok (.iaload, 1) := by decide +kernel
theorem dX11_cheapest_45 : decode cX11_cheapest 45 = .ok (.ifCond .eq 7, 3) := by decide +kernel
theorem dX11_cheapest_48 : decode cX11_cheapest 48 = .ok (.iconst 1, 1) := by decide +kernel
theorem dX11_cheapest_49 : decode cX11_cheapest 49 = .ok (.goto 4, 3) := by decide +kernel
theorem dX11_cheapest_52 : decode cX11_cheapest 52 = .ok (.iconst 0, 1) := by decide +kernel
theorem dX11_cheapest_53 : decode cX11_cheapest 53 = .ok (.iload_n 2, 1) := by decide +kernel
theorem dX11_cheapest_54 : decode cX11_cheapest 54 = .ok (.iload_n 3, 1) := by decide +kernel
theorem dX11_cheapest_55 : decode cX11_cheapest 55 = .ok (.iload 4, 2) := by decide +kernel
theorem dX11_cheapest_57 : decode cX11_cheapest 57 = .ok (.iload 5, 2) := by decide +kernel
theorem dX11_cheapest_59 : decode cX11_cheapest 59 = .ok (.invokevirtual 216, 3) := by decide +kernel
theorem dX11_cheapest_62 : decode cX11_cheapest 62 = .ok (.ifCond .ne 6, 3) := by decide +kernel
theorem dX11_cheapest_65 : decode cX11_cheapest 65 = .ok (.bipush (-4), 2) := by decide +kernel
theorem dX11_cheapest_67 : decode cX11_cheapest 67 = .ok (.ireturn, 1) := by decide +kernel
theorem dX11_cheapest_68 : decode cX11_cheapest 68 = .ok (.iload 6, 2) := by decide +kernel
theorem dX11_cheapest_70 : decode cX11_cheapest 70 = .ok (.iconst (-1), 1) := by decide +kernel
theorem dX11_cheapest_71 : decode cX11_cheapest 71 = .ok (.if_icmp .ne 11, 3) := by decide +kernel
theorem dX11_cheapest_74 : decode cX11_cheapest 74 = .ok (.aload_n 0, 1) := by decide +kernel
theorem dX11_cheapest_75 : decode cX11_cheapest 75 = .ok (.getfield 43, 3) := by decide +kernel
theorem dX11_cheapest_78 : decode cX11_cheapest 78 = .ok (.getfield 220, 3) := by decide +kernel
theorem dX11_cheapest_81 : decode cX11_cheapest 81 = .ok (.ireturn, 1) := by decide +kernel
theorem dX11_cheapest_82 : decode cX11_cheapest 82 = .ok (.iload 6, 2) := by decide +kernel
theorem dX11_cheapest_84 : decode cX11_cheapest 84 = .ok (.bipush (-2), 2) := by decide +kernel
theorem dX11_cheapest_86 : decode cX11_cheapest 86 = .ok (.if_icmp .ne 13, 3) := by decide +kernel
theorem dX11_cheapest_89 : decode cX11_cheapest 89 = .ok (.aload_n 0, 1) := by decide +kernel
theorem dX11_cheapest_90 : decode cX11_cheapest 90 = .ok (.getfield 43, 3) := by decide +kernel
theorem dX11_cheapest_93 : decode cX11_cheapest 93 = .ok (.getfield 223, 3) := by decide +kernel
theorem dX11_cheapest_96 : decode cX11_cheapest 96 = .ok (.goto 13, 3) := by decide +kernel
theorem dX11_cheapest_99 : decode cX11_cheapest 99 = .ok (.aload_n 0, 1) := by decide +kernel
theorem dX11_cheapest_100 : decode cX11_cheapest 100 = .ok (.getfield 43, 3) := by decide +kernel
theorem dX11_cheapest_103 : decode cX11_cheapest 103 = .ok (.getfield 226, 3) := by decide +kernel
theorem dX11_cheapest_106 : decode cX11_cheapest 106 = .ok (.iload 6, 2) := by decide +kernel
theorem dX11_cheapest_108 : decode cX11_cheapest 108 = .ok (.iaload, 1) := by decide +kernel
theorem dX11_cheapest_109 : decode cX11_cheapest 109 = .ok (.ireturn, 1) := by decide +kernel
set_option maxRecDepth 20000 in
theorem ggX11_go_X11_isWalk : GoodIn wsX11_go wsX11_isWalk := goodIn_r _ [10, 2, 11, 12, 9, 13, 14, 15, 16, 17, 18, 19, 20, 21, 22, 23, 24, 25, 26, 27, 28, 29, 30, 31, 32, 33, 34, 35, 36, 37, 38, 39, 40, 41, 42, 179, 180, 181, 182, 183, 184, 185, 186, 187, 188, 189, 190, 191, 192, 193, 194, 195, 196, 216, 217, 218, 219, 220, 221, 222, 223] (by decide +kernel) (by decide +kernel)
set_option maxRecDepth 20000 in
theorem gX11_go_X11_isWalk : GoodIn wsX11_go (wsV RX11 212 RX11 yX11_isWalk wsX11_isWalk) := goodIn_app (goodIn_of _ (by decide +kernel)) ggX11_go_X11_isWalk
set_option maxRecDepth 20000 in
theorem ggX11_go_X9_search : GoodIn wsX11_go wsX9_search := goodIn_r _ [47, 48, 49, 50, 51, 52, 53, 54, 55, 56, 57, 17, 58, 31, 38, 39, 40, 41, 42, 12, 9, 13, 59, 60, 61, 62, 63, 64, 65, 66, 67, 46, 68, 69, 70, 71, 72, 73, 74, 75, 76, 77, 78, 79, 80, 81, 82, 83, 84, 85, 86, 87, 88, 89, 90, 91, 92, 93, 94, 95, 96, 97, 98, 99, 25, 100, 101, 102, 103, 104, 105, 106, 107, 108, 109, 110, 111, 112, 113, 114, 115, 116, 117, 118, 119, 120, 121, 122, 123, 124, 125, 126, 127, 128, 129, 130, 131, 132, 133, 134, 135, 136, 137, 138, 139, 140, 141, 142, 143, 144, 145, 146, 147, 148, 149, 150, 151, 152, 153, 154, 155, 156, 157, 158, 159, 160, 161, 162, 163, 164, 165, 166, 167, 168, 169, 170, 171, 172, 173, 174, 197, 198, 199, 200, 201, 202, 203, 204, 205, 206, 207, 208, 209, 210, 211, 212, 213, 214, 215, 188, 189, 190, 191, 192, 193, 194, 195, 196, 224, 225, 226, 227, 219, 220, 221, 222, 223, 228, 229, 216, 217, 218] (by decide +kernel) (by decide +kernel)
set_option maxRecDepth 20000 in
theorem gX11_go_X9_search : GoodIn wsX11_go (wsV RX11 216 RX9 yX9_search wsX9_search) := goodIn_app (goodIn_of _ (by decide +kernel)) ggX11_go_X9_search
set_option maxRecDepth 20000 in
theorem ggX11_go_X9_wearOut : GoodIn wsX11_go wsX9_wearOut := goodIn_r _ [178, 48, 77, 72, 159, 197, 198, 199, 200, 201, 202, 203, 204, 205, 206, 207, 208, 209, 210, 211, 212, 213, 214, 215, 219, 220, 221, 222, 223] (by decide +kernel) (by decide +kernel)
set_option maxRecDepth 20000 in
theorem gX11_go_X9_wearOut : GoodIn wsX11_go (wsV RX11 229 RX9 yX9_wearOut wsX9_wearOut) := goodIn_app (goodIn_of _ (by decide +kernel)) ggX11_go_X9_wearOut
theorem dX11_go_0 : decode cX11_go 0 = .ok (.aload_n 0, 1) := by decide +kernel
theorem dX11_go_1 : decode cX11_go 1 = .ok (.iload_n 1, 1) := by decide +kernel
theorem dX11_go_2 : decode cX11_go 2 = .ok (.iload_n 2, 1) := by decide +kernel
theorem dX11_go_3 : decode cX11_go 3 = .ok (.iload_n 3, 1) := by decide +kernel
theorem dX11_go_4 : decode cX11_go 4 = .ok (.iload 4, 2) := by decide +kernel
theorem dX11_go_6 : decode cX11_go 6 = .ok (.iload 5, 2) := by decide +kernel
theorem dX11_go_8 : decode cX11_go 8 = .ok (.invokevirtual 212, 3) := by decide +kernel
theorem dX11_go_11 : decode cX11_go 11 = .ok (.ifCond .ne 5, 3) := by decide +kernel
theorem dX11_go_14 : decode cX11_go 14 = .ok (.iconst (-1), 1) := by decide +kernel
theorem dX11_go_15 : decode cX11_go 15 = .ok (.ireturn, 1) := by decide +kernel
theorem dX11_go_16 : decode cX11_go 16 = .ok (.aload_n 0, 1) := by decide +kernel
theorem dX11_go_17 : decode cX11_go 17 = .ok (.getfield 43, 3) := by decide +kernel
theorem dX11_go_20 : decode cX11_go 20 = .ok (.aload_n 0, 1) := by decide +kernel
theorem dX11_go_21 : decode cX11_go 21 = .ok (.getfield 10, 3) := by decide +kernel
theorem dX11_go_24 : decode cX11_go 24 = .ok (.aload_n 0, 1) := by decide +kernel
theorem dX11_go_25 : decode cX11_go 25 = .ok (.getfield 10, 3) := by decide +kernel
theorem dX11_go_28 : decode cX11_go 28 = .ok (.getfield 113, 3) := by decide +kernel
theorem dX11_go_31 : decode cX11_go 31 = .ok (.iload_n 1, 1) := by decide +kernel
theorem dX11_go_32 : decode cX11_go 32 = .ok (.iaload, 1) := by decide +kernel
theorem dX11_go_33 : decode cX11_go 33 = .ok (.ifCond .eq 7, 3) := by decide +kernel
theorem dX11_go_36 : decode cX11_go 36 = .ok (.iconst 1, 1) := by decide +kernel
theorem dX11_go_37 : decode cX11_go 37 = .ok (.goto 4, 3) := by decide +kernel
theorem dX11_go_40 : decode cX11_go 40 = .ok (.iconst 0, 1) := by decide +kernel
theorem dX11_go_41 : decode cX11_go 41 = .ok (.iload_n 2, 1) := by decide +kernel
theorem dX11_go_42 : decode cX11_go 42 = .ok (.iload_n 3, 1) := by decide +kernel
theorem dX11_go_43 : decode cX11_go 43 = .ok (.iload 4, 2) := by decide +kernel
theorem dX11_go_45 : decode cX11_go 45 = .ok (.iload 5, 2) := by decide +kernel
theorem dX11_go_47 : decode cX11_go 47 = .ok (.invokevirtual 216, 3) := by decide +kernel
theorem dX11_go_50 : decode cX11_go 50 = .ok (.ifCond .ne 6, 3) := by decide +kernel
theorem dX11_go_53 : decode cX11_go 53 = .ok (.bipush (-4), 2) := by decide +kernel
theorem dX11_go_55 : decode cX11_go 55 = .ok (.ireturn, 1) := by decide +kernel
theorem dX11_go_56 : decode cX11_go 56 = .ok (.aload_n 0, 1) := by decide +kernel
theorem dX11_go_57 : decode cX11_go 57 = .ok (.getfield 43, 3) := by decide +kernel
theorem dX11_go_60 : decode cX11_go 60 = .ok (.getfield 220, 3) := by decide +kernel
theorem dX11_go_63 : decode cX11_go 63 = .ok (.bipush 16, 2) := by decide +kernel
theorem dX11_go_65 : decode cX11_go 65 = .ok (.idiv, 1) := by decide +kernel
theorem dX11_go_66 : decode cX11_go 66 = .ok (.istore 6, 2) := by decide +kernel
theorem dX11_go_68 : decode cX11_go 68 = .ok (.aload_n 0, 1) := by decide +kernel
theorem dX11_go_69 : decode cX11_go 69 = .ok (.getfield 10, 3) := by decide +kernel
theorem dX11_go_72 : decode cX11_go 72 = .ok (.getfield 109, 3) := by decide +kernel
theorem dX11_go_75 : decode cX11_go 75 = .ok (.iload_n 1, 1) := by decide +kernel
theorem dX11_go_76 : decode cX11_go 76 = .ok (.iaload, 1) := by decide +kernel
theorem dX11_go_77 : decode cX11_go 77 = .ok (.iload 6, 2) := by decide +kernel
theorem dX11_go_79 : decode cX11_go 79 = .ok (.if_icmp .ge 6, 3) := by decide +kernel
theorem dX11_go_82 : decode cX11_go 82 = .ok (.bipush (-2), 2) := by decide +kernel
theorem dX11_go_84 : decode cX11_go 84 = .ok (.ireturn, 1) := by decide +kernel
theorem dX11_go_85 : decode cX11_go 85 = .ok (.aload_n 0, 1) := by decide +kernel
theorem dX11_go_86 : decode cX11_go 86 = .ok (.getfield 10, 3) := by decide +kernel
theorem dX11_go_89 : decode cX11_go 89 = .ok (.getfield 109, 3) := by decide +kernel
theorem dX11_go_92 : decode cX11_go 92 = .ok (.iload_n 1, 1) := by decide +kernel
theorem dX11_go_93 : decode cX11_go 93 = .ok (.dup2, 1) := by decide +kernel
theorem dX11_go_94 : decode cX11_go 94 = .ok (.iaload, 1) := by decide +kernel
theorem dX11_go_95 : decode cX11_go 95 = .ok (.iload 6, 2) := by decide +kernel
theorem dX11_go_97 : decode cX11_go 97 = .ok (.isub, 1) := by decide +kernel
theorem dX11_go_98 : decode cX11_go 98 = .ok (.iastore, 1) := by decide +kernel
theorem dX11_go_99 : decode cX11_go 99 = .ok (.aload_n 0, 1) := by decide +kernel
theorem dX11_go_100 : decode cX11_go 100 = .ok (.getfield 43, 3) := by decide +kernel
theorem dX11_go_103 : decode cX11_go 103 = .ok (.invokevirtual 229, 3) := by decide +kernel
theorem dX11_go_106 : decode cX11_go 106 = .ok (.iload 6, 2) := by decide +kernel
theorem dX11_go_108 : decode cX11_go 108 = .ok (.ireturn, 1) := by decide +kernel
set_option maxRecDepth 20000 in
theorem ggX11_path_X11_arePoints : GoodIn wsX11_path wsX11_arePoints := goodIn_r _ [6, 7, 8, 5, 9] (by decide +kernel) (by decide +kernel)
set_option maxRecDepth 20000 in
theorem gX11_path_X11_arePoints : GoodIn wsX11_path (va_wsS RX11 232 yX11_arePoints wsX11_arePoints) := goodIn_app (goodIn_of _ (by decide +kernel)) ggX11_path_X11_arePoints
set_option maxRecDepth 20000 in
theorem ggX11_path_X11_isWithin : GoodIn wsX11_path wsX11_isWithin := goodIn_r _ [9] (by decide +kernel) (by decide +kernel)
set_option maxRecDepth 20000 in
theorem gX11_path_X11_isWithin : GoodIn wsX11_path (va_wsS RX11 61 yX11_isWithin wsX11_isWithin) := goodIn_app (goodIn_of _ (by decide +kernel)) ggX11_path_X11_isWithin
set_option maxRecDepth 20000 in
theorem ggX11_path_X2_join : GoodIn wsX11_path wsX2_join := goodIn_r _ [14, 15, 16, 17, 18, 19, 20, 21, 22, 23, 24, 25, 13, 26, 45, 46, 47, 48, 49] (by decide +kernel) (by decide +kernel)
set_option maxRecDepth 20000 in
theorem gX11_path_X2_join : GoodIn wsX11_path (wsV RX11 236 RX2 yX2_join wsX2_join) := goodIn_app (goodIn_of _ (by decide +kernel)) ggX11_path_X2_join
theorem dX11_path_0 : decode cX11_path 0 = .ok (.iload_n 1, 1) := by decide +kernel
theorem dX11_path_1 : decode cX11_path 1 = .ok (.iload_n 2, 1) := by decide +kernel
theorem dX11_path_2 : decode cX11_path 2 = .ok (.invokestatic 232, 3) := by decide +kernel
theorem dX11_path_5 : decode cX11_path 5 = .ok (.ifCond .eq 13, 3) := by decide +kernel
theorem dX11_path_8 : decode cX11_path 8 = .ok (.iload_n 3, 1) := by decide +kernel
theorem dX11_path_9 : decode cX11_path 9 = .ok (.iconst (-1), 1) := by decide +kernel
theorem dX11_path_10 : decode cX11_path 10 = .ok (.bipush 15, 2) := by decide +kernel
theorem dX11_path_12 : decode cX11_path 12 = .ok (.invokestatic 61, 3) := by decide +kernel
theorem dX11_path_15 : decode cX11_path 15 = .ok (.ifCond .ne 5, 3) := by decide +kernel
theorem dX11_path_18 : decode cX11_path 18 = .ok (.iconst (-1), 1) := by decide +kernel
theorem dX11_path_19 : decode cX11_path 19 = .ok (.ireturn, 1) := by decide +kernel
theorem dX11_path_20 : decode cX11_path 20 = .ok (.aload_n 0, 1) := by decide +kernel
theorem dX11_path_21 : decode cX11_path 21 = .ok (.getfield 10, 3) := by decide +kernel
theorem dX11_path_24 : decode cX11_path 24 = .ok (.getfield 192, 3) := by decide +kernel
theorem dX11_path_27 : decode cX11_path 27 = .ok (.iload_n 1, 1) := by decide +kernel
theorem dX11_path_28 : decode cX11_path 28 = .ok (.iload_n 2, 1) := by decide +kernel
theorem dX11_path_29 : decode cX11_path 29 = .ok (.iload_n 3, 1) := by decide +kernel
theorem dX11_path_30 : decode cX11_path 30 = .ok (.invokevirtual 236, 3) := by decide +kernel
theorem dX11_path_33 : decode cX11_path 33 = .ok (.bipush 100, 2) := by decide +kernel
theorem dX11_path_35 : decode cX11_path 35 = .ok (.iadd, 1) := by decide +kernel
theorem dX11_path_36 : decode cX11_path 36 = .ok (.ireturn, 1) := by decide +kernel
set_option maxRecDepth 20000 in
theorem ggX11_unseen_X11_arePoints : GoodIn wsX11_unseen wsX11_arePoints := goodIn_r _ [8, 9, 10, 7, 11] (by decide +kernel) (by decide +kernel)
set_option maxRecDepth 20000 in
theorem gX11_unseen_X11_arePoints : GoodIn wsX11_unseen (va_wsS RX11 232 yX11_arePoints wsX11_arePoints) := goodIn_app (goodIn_of _ (by decide +kernel)) ggX11_unseen_X11_arePoints
set_option maxRecDepth 20000 in
theorem ggX11_unseen_X11_isWithin : GoodIn wsX11_unseen wsX11_isWithin := goodIn_r _ [11] (by decide +kernel) (by decide +kernel)
set_option maxRecDepth 20000 in
theorem gX11_unseen_X11_isWithin : GoodIn wsX11_unseen (va_wsS RX11 61 yX11_isWithin wsX11_isWithin) := goodIn_app (goodIn_of _ (by decide +kernel)) ggX11_unseen_X11_isWithin
set_option maxRecDepth 20000 in
theorem ggX11_unseen_X2_search : GoodIn wsX11_unseen wsX2_search := goodIn_r _ [16, 17, 18, 19, 20, 21, 22, 23, 24, 25, 26, 27, 28, 29, 30, 31, 32, 15, 33, 34, 35, 36, 37, 38, 39, 40, 41, 42, 43, 44, 45, 70, 71, 72, 73, 74] (by decide +kernel) (by decide +kernel)
set_option maxRecDepth 20000 in
theorem gX11_unseen_X2_search : GoodIn wsX11_unseen (wsV RX11 240 RX2 yX2_search wsX2_search) := goodIn_app (goodIn_of _ (by decide +kernel)) ggX11_unseen_X2_search
set_option maxRecDepth 20000 in
theorem ggX11_unseen_X11_partOf : GoodIn wsX11_unseen wsX11_partOf := goodIn_r _ [48, 49, 50, 7, 51] (by decide +kernel) (by decide +kernel)
set_option maxRecDepth 20000 in
theorem gX11_unseen_X11_partOf : GoodIn wsX11_unseen (va_wsS RX11 246 yX11_partOf wsX11_partOf) := goodIn_app (goodIn_of _ (by decide +kernel)) ggX11_unseen_X11_partOf
theorem dX11_unseen_0 : decode cX11_unseen 0 = .ok (.iload_n 1, 1) := by decide +kernel
theorem dX11_unseen_1 : decode cX11_unseen 1 = .ok (.iload_n 2, 1) := by decide +kernel
theorem dX11_unseen_2 : decode cX11_unseen 2 = .ok (.invokestatic 232, 3) := by decide +kernel
theorem dX11_unseen_5 : decode cX11_unseen 5 = .ok (.ifCond .eq 12, 3) := by decide +kernel
theorem dX11_unseen_8 : decode cX11_unseen 8 = .ok (.iload_n 3, 1) := by decide +kernel
theorem dX11_unseen_9 : decode cX11_unseen 9 = .ok (.iconst 0, 1) := by decide +kernel
theorem dX11_unseen_10 : decode cX11_unseen 10 = .ok (.iconst 1, 1) := by decide +kernel
theorem dX11_unseen_11 : decode cX11_unseen 11 = .ok (.invokestatic 61, 3) := by decide +kernel
theorem dX11_unseen_14 : decode cX11_unseen 14 = .ok (.ifCond .ne 5, 3) := by decide +kernel
theorem dX11_unseen_17 : decode cX11_unseen 17 = .ok (.iconst (-1), 1) := by decide +kernel
theorem dX11_unseen_18 : decode cX11_unseen 18 = .ok (.ireturn, 1) := by decide +kernel
theorem dX11_unseen_19 : decode cX11_unseen 19 = .ok (.aload_n 0, 1) := by decide +kernel
theorem dX11_unseen_20 : decode cX11_unseen 20 = .ok (.getfield 10, 3) := by decide +kernel
theorem dX11_unseen_23 : decode cX11_unseen 23 = .ok (.getfield 192, 3) := by decide +kernel
theorem dX11_unseen_26 : decode cX11_unseen 26 = .ok (.iload_n 1, 1) := by decide +kernel
theorem dX11_unseen_27 : decode cX11_unseen 27 = .ok (.iload_n 2, 1) := by decide +kernel
theorem dX11_unseen_28 : decode cX11_unseen 28 = .ok (.invokevirtual 240, 3) := by decide +kernel
theorem dX11_unseen_31 : decode cX11_unseen 31 = .ok (.ifCond .ne 6, 3) := by decide +kernel
theorem dX11_unseen_34 : decode cX11_unseen 34 = .ok (.bipush (-4), 2) := by decide +kernel
theorem dX11_unseen_36 : decode cX11_unseen 36 = .ok (.ireturn, 1) := by decide +kernel
theorem dX11_unseen_37 : decode cX11_unseen 37 = .ok (.aload_n 0, 1) := by decide +kernel
theorem dX11_unseen_38 : decode cX11_unseen 38 = .ok (.getfield 10, 3) := by decide +kernel
theorem dX11_unseen_41 : decode cX11_unseen 41 = .ok (.getfield 192, 3) := by decide +kernel
theorem dX11_unseen_44 : decode cX11_unseen 44 = .ok (.getfield 242, 3) := by decide +kernel
theorem dX11_unseen_47 : decode cX11_unseen 47 = .ok (.ldc 245, 2) := by decide +kernel
theorem dX11_unseen_49 : decode cX11_unseen 49 = .ok (.iload_n 3, 1) := by decide +kernel
theorem dX11_unseen_50 : decode cX11_unseen 50 = .ok (.invokestatic 246, 3) := by decide +kernel
theorem dX11_unseen_53 : decode cX11_unseen 53 = .ok (.ireturn, 1) := by decide +kernel
set_option maxRecDepth 20000 in
theorem ggX11_paths_X11_arePoints : GoodIn wsX11_paths wsX11_arePoints := goodIn_r _ [7, 8, 9, 6, 10] (by decide +kernel) (by decide +kernel)
set_option maxRecDepth 20000 in
theorem gX11_paths_X11_arePoints : GoodIn wsX11_paths (va_wsS RX11 232 yX11_arePoints wsX11_arePoints) := goodIn_app (goodIn_of _ (by decide +kernel)) ggX11_paths_X11_arePoints
set_option maxRecDepth 20000 in
theorem ggX11_paths_X2_search : GoodIn wsX11_paths wsX2_search := goodIn_r _ [15, 16, 17, 18, 19, 20, 21, 22, 23, 24, 25, 26, 27, 28, 29, 30, 31, 14, 32, 33, 34, 35, 36, 37, 38, 39, 40, 41, 42, 43, 44, 63, 64, 65, 66, 67] (by decide +kernel) (by decide +kernel)
set_option maxRecDepth 20000 in
theorem gX11_paths_X2_search : GoodIn wsX11_paths (wsV RX11 240 RX2 yX2_search wsX2_search) := goodIn_app (goodIn_of _ (by decide +kernel)) ggX11_paths_X2_search
theorem dX11_paths_0 : decode cX11_paths 0 = .ok (.iload_n 1, 1) := by decide +kernel
theorem dX11_paths_1 : decode cX11_paths 1 = .ok (.iload_n 2, 1) := by decide +kernel
theorem dX11_paths_2 : decode cX11_paths 2 = .ok (.invokestatic 232, 3) := by decide +kernel
theorem dX11_paths_5 : decode cX11_paths 5 = .ok (.ifCond .ne 5, 3) := by decide +kernel
theorem dX11_paths_8 : decode cX11_paths 8 = .ok (.iconst (-1), 1) := by decide +kernel
theorem dX11_paths_9 : decode cX11_paths 9 = .ok (.ireturn, 1) := by decide +kernel
theorem dX11_paths_10 : decode cX11_paths 10 = .ok (.aload_n 0, 1) := by decide +kernel
theorem dX11_paths_11 : decode cX11_paths 11 = .ok (.getfield 10, 3) := by decide +kernel
theorem dX11_paths_14 : decode cX11_paths 14 = .ok (.getfield 192, 3) := by decide +kernel
theorem dX11_paths_17 : decode cX11_paths 17 = .ok (.iload_n 1, 1) := by decide +kernel
theorem dX11_paths_18 : decode cX11_paths 18 = .ok (.iload_n 2, 1) := by decide +kernel
theorem dX11_paths_19 : decode cX11_paths 19 = .ok (.invokevirtual 240, 3) := by decide +kernel
theorem dX11_paths_22 : decode cX11_paths 22 = .ok (.ifCond .eq 16, 3) := by decide +kernel
theorem dX11_paths_25 : decode cX11_paths 25 = .ok (.aload_n 0, 1) := by decide +kernel
theorem dX11_paths_26 : decode cX11_paths 26 = .ok (.getfield 10, 3) := by decide +kernel
theorem dX11_paths_29 : decode cX11_paths 29 = .ok (.getfield 192, 3) := by decide +kernel
theorem dX11_paths_32 : decode cX11_paths 32 = .ok (.getfield 249, 3) := by decide +kernel
theorem dX11_paths_35 : decode cX11_paths 35 = .ok (.goto 5, 3) := by decide +kernel
theorem dX11_paths_38 : decode cX11_paths 38 = .ok (.bipush (-4), 2) := by decide +kernel
theorem dX11_paths_40 : decode cX11_paths 40 = .ok (.ireturn, 1) := by decide +kernel
set_option maxRecDepth 20000 in
theorem ggX11_buyer_X11_isWithin : GoodIn wsX11_buyer wsX11_isWithin := goodIn_r _ [6] (by decide +kernel) (by decide +kernel)
set_option maxRecDepth 20000 in
theorem gX11_buyer_X11_isWithin : GoodIn wsX11_buyer (va_wsS RX11 61 yX11_isWithin wsX11_isWithin) := goodIn_app (goodIn_of _ (by decide +kernel)) ggX11_buyer_X11_isWithin
set_option maxRecDepth 20000 in
theorem ggX11_buyer_X1_add : GoodIn wsX11_buyer wsX1_add := goodIn_r _ [11, 12, 13, 14, 33, 34, 35, 36, 37, 38] (by decide +kernel) (by decide +kernel)
set_option maxRecDepth 20000 in
theorem gX11_buyer_X1_add : GoodIn wsX11_buyer (wsV RX11 252 RX1 yX1_add wsX1_add) := goodIn_app (goodIn_of _ (by decide +kernel)) ggX11_buyer_X1_add
theorem dX11_buyer_0 : decode cX11_buyer 0 = .ok (.iload_n 1, 1) := by decide +kernel
theorem dX11_buyer_1 : decode cX11_buyer 1 = .ok (.iconst 1, 1) := by decide +kernel
theorem dX11_buyer_2 : decode cX11_buyer 2 = .ok (.bipush 9, 2) := by decide +kernel
theorem dX11_buyer_4 : decode cX11_buyer 4 = .ok (.invokestatic 61, 3) := by decide +kernel
theorem dX11_buyer_7 : decode cX11_buyer 7 = .ok (.ifCond .eq 13, 3) := by decide +kernel
theorem dX11_buyer_10 : decode cX11_buyer 10 = .ok (.iload_n 2, 1) := by decide +kernel
theorem dX11_buyer_11 : decode cX11_buyer 11 = .ok (.iconst 1, 1) := by decide +kernel
theorem dX11_buyer_12 : decode cX11_buyer 12 = .ok (.bipush 99, 2) := by decide +kernel
theorem dX11_buyer_14 : decode cX11_buyer 14 = .ok (.invokestatic 61, 3) := by decide +kernel
theorem dX11_buyer_17 : decode cX11_buyer 17 = .ok (.ifCond .ne 5, 3) := by decide +kernel
theorem dX11_buyer_20 : decode cX11_buyer 20 = .ok (.iconst (-1), 1) := by decide +kernel
theorem dX11_buyer_21 : decode cX11_buyer 21 = .ok (.ireturn, 1) := by decide +kernel
theorem dX11_buyer_22 : decode cX11_buyer 22 = .ok (.aload_n 0, 1) := by decide +kernel
theorem dX11_buyer_23 : decode cX11_buyer 23 = .ok (.getfield 10, 3) := by decide +kernel
theorem dX11_buyer_26 : decode cX11_buyer 26 = .ok (.getfield 183, 3) := by decide +kernel
theorem dX11_buyer_29 : decode cX11_buyer 29 = .ok (.iload_n 1, 1) := by decide +kernel
theorem dX11_buyer_30 : decode cX11_buyer 30 = .ok (.iload_n 2, 1) := by decide +kernel
theorem dX11_buyer_31 : decode cX11_buyer 31 = .ok (.invokevirtual 252, 3) := by decide +kernel
theorem dX11_buyer_34 : decode cX11_buyer 34 = .ok (.ireturn, 1) := by decide +kernel
set_option maxRecDepth 20000 in
theorem ggX11_market_X11_isWithin : GoodIn wsX11_market wsX11_isWithin := goodIn_r _ [8] (by decide +kernel) (by decide +kernel)
set_option maxRecDepth 20000 in
theorem gX11_market_X11_isWithin : GoodIn wsX11_market (va_wsS RX11 61 yX11_isWithin wsX11_isWithin) := goodIn_app (goodIn_of _ (by decide +kernel)) ggX11_market_X11_isWithin
set_option maxRecDepth 20000 in
theorem ggX11_market_X1_settle : GoodIn wsX11_market wsX1_settle := goodIn_r _ [13, 14, 15, 16, 17, 18, 19, 20, 21, 22, 23, 24, 25, 26, 27, 28, 29, 30, 12, 31, 32, 33, 34, 53, 54, 55, 56, 57, 58] (by decide +kernel) (by decide +kernel)
set_option maxRecDepth 20000 in
theorem gX11_market_X1_settle : GoodIn wsX11_market (wsV RX11 255 RX1 yX1_settle wsX1_settle) := goodIn_app (goodIn_of _ (by decide +kernel)) ggX11_market_X1_settle
theorem dX11_market_0 : decode cX11_market 0 = .ok (.iload_n 1, 1) := by decide +kernel
theorem dX11_market_1 : decode cX11_market 1 = .ok (.iconst 1, 1) := by decide +kernel
theorem dX11_market_2 : decode cX11_market 2 = .ok (.bipush 99, 2) := by decide +kernel
theorem dX11_market_4 : decode cX11_market 4 = .ok (.invokestatic 61, 3) := by decide +kernel
theorem dX11_market_7 : decode cX11_market 7 = .ok (.ifCond .eq 22, 3) := by decide +kernel
theorem dX11_market_10 : decode cX11_market 10 = .ok (.iload_n 2, 1) := by decide +kernel
theorem dX11_market_11 : decode cX11_market 11 = .ok (.iconst 0, 1) := by decide +kernel
theorem dX11_market_12 : decode cX11_market 12 = .ok (.bipush 60, 2) := by decide +kernel
theorem dX11_market_14 : decode cX11_market 14 = .ok (.invokestatic 61, 3) := by decide +kernel
theorem dX11_market_17 : decode cX11_market 17 = .ok (.ifCond .eq 12, 3) := by decide +kernel
theorem dX11_market_20 : decode cX11_market 20 = .ok (.iload_n 3, 1) := by decide +kernel
theorem dX11_market_21 : decode cX11_market 21 = .ok (.iconst 0, 1) := by decide +kernel
theorem dX11_market_22 : decode cX11_market 22 = .ok (.iconst 1, 1) := by decide +kernel
theorem dX11_market_23 : decode cX11_market 23 = .ok (.invokestatic 61, 3) := by decide +kernel
theorem dX11_market_26 : decode cX11_market 26 = .ok (.ifCond .ne 5, 3) := by decide +kernel
theorem dX11_market_29 : decode cX11_market 29 = .ok (.iconst (-1), 1) := by decide +kernel
theorem dX11_market_30 : decode cX11_market 30 = .ok (.ireturn, 1) := by decide +kernel
theorem dX11_market_31 : decode cX11_market 31 = .ok (.aload_n 0, 1) := by decide +kernel
theorem dX11_market_32 : decode cX11_market 32 = .ok (.getfield 10, 3) := by decide +kernel
theorem dX11_market_35 : decode cX11_market 35 = .ok (.getfield 183, 3) := by decide +kernel
theorem dX11_market_38 : decode cX11_market 38 = .ok (.iload_n 1, 1) := by decide +kernel
theorem dX11_market_39 : decode cX11_market 39 = .ok (.iload_n 2, 1) := by decide +kernel
theorem dX11_market_40 : decode cX11_market 40 = .ok (.invokevirtual 255, 3) := by decide +kernel
theorem dX11_market_43 : decode cX11_market 43 = .ok (.istore 4, 2) := by decide +kernel
theorem dX11_market_45 : decode cX11_market 45 = .ok (.iload_n 3, 1) := by decide +kernel
theorem dX11_market_46 : decode cX11_market 46 = .ok (.iconst 1, 1) := by decide +kernel
theorem dX11_market_47 : decode cX11_market 47 = .ok (.if_icmp .ne 14, 3) := by decide +kernel
theorem dX11_market_50 : decode cX11_market 50 = .ok (.aload_n 0, 1) := by decide +kernel
theorem dX11_market_51 : decode cX11_market 51 = .ok (.getfield 10, 3) := by decide +kernel
theorem dX11_market_54 : decode cX11_market 54 = .ok (.getfield 183, 3) := by decide +kernel
theorem dX11_market_57 : decode cX11_market 57 = .ok (.getfield 258, 3) := by decide +kernel
theorem dX11_market_60 : decode cX11_market 60 = .ok (.ireturn, 1) := by decide +kernel
theorem dX11_market_61 : decode cX11_market 61 = .ok (.iload 4, 2) := by decide +kernel
theorem dX11_market_63 : decode cX11_market 63 = .ok (.ifCond .eq 16, 3) := by decide +kernel
theorem dX11_market_66 : decode cX11_market 66 = .ok (.aload_n 0, 1) := by decide +kernel
theorem dX11_market_67 : decode cX11_market 67 = .ok (.getfield 10, 3) := by decide +kernel
theorem dX11_market_70 : decode cX11_market 70 = .ok (.getfield 183, 3) := by decide +kernel
theorem dX11_market_73 : decode cX11_market 73 = .ok (.getfield 261, 3) := by decide +kernel
theorem dX11_market_76 : decode cX11_market 76 = .ok (.goto 5, 3) := by decide +kernel
theorem dX11_market_79 : decode cX11_market 79 = .ok (.bipush (-4), 2) := by decide +kernel
theorem dX11_market_81 : decode cX11_market 81 = .ok (.ireturn, 1) := by decide +kernel
theorem dX11_fair_0 : decode cX11_fair 0 = .ok (.aload_n 0, 1) := by decide +kernel
theorem dX11_fair_1 : decode cX11_fair 1 = .ok (.getfield 10, 3) := by decide +kernel
theorem dX11_fair_4 : decode cX11_fair 4 = .ok (.getfield 183, 3) := by decide +kernel
theorem dX11_fair_7 : decode cX11_fair 7 = .ok (.getfield 187, 3) := by decide +kernel
theorem dX11_fair_10 : decode cX11_fair 10 = .ok (.istore_n 1, 1) := by decide +kernel
theorem dX11_fair_11 : decode cX11_fair 11 = .ok (.aload_n 0, 1) := by decide +kernel
theorem dX11_fair_12 : decode cX11_fair 12 = .ok (.getfield 10, 3) := by decide +kernel
theorem dX11_fair_15 : decode cX11_fair 15 = .ok (.getfield 183, 3) := by decide +kernel
theorem dX11_fair_18 : decode cX11_fair 18 = .ok (.iconst 0, 1) := by decide +kernel
theorem dX11_fair_19 : decode cX11_fair 19 = .ok (.putfield 187, 3) := by decide +kernel
theorem dX11_fair_22 : decode cX11_fair 22 = .ok (.iload_n 1, 1) := by decide +kernel
theorem dX11_fair_23 : decode cX11_fair 23 = .ok (.ireturn, 1) := by decide +kernel
set_option maxRecDepth 20000 in
theorem ggX11_brothers_X11_isWithin : GoodIn wsX11_brothers wsX11_isWithin := goodIn_r _ [10] (by decide +kernel) (by decide +kernel)
set_option maxRecDepth 20000 in
theorem gX11_brothers_X11_isWithin : GoodIn wsX11_brothers (va_wsS RX11 61 yX11_isWithin wsX11_isWithin) := goodIn_app (goodIn_of _ (by decide +kernel)) ggX11_brothers_X11_isWithin
set_option maxRecDepth 20000 in
theorem ggX11_brothers_X10_pairsOf : GoodIn wsX11_brothers wsX10_pairsOf := goodIn_r _ [15, 16, 4, 5, 6, 17, 18, 19, 14, 20, 21, 22, 23, 24, 25, 26, 27, 28, 29, 45, 46, 47, 48, 49, 50, 51, 52, 53, 54, 55, 56, 57, 58] (by decide +kernel) (by decide +kernel)
set_option maxRecDepth 20000 in
theorem gX11_brothers_X10_pairsOf : GoodIn wsX11_brothers (wsV RX11 264 RX10 yX10_pairsOf wsX10_pairsOf) := goodIn_app (goodIn_of _ (by decide +kernel)) ggX11_brothers_X10_pairsOf
set_option maxRecDepth 20000 in
theorem ggX11_brothers_X10_twoFooted : GoodIn wsX11_brothers wsX10_twoFooted := goodIn_r _ [33, 34, 35, 27, 28, 14, 29, 45, 46, 47, 48, 49, 50, 51, 52, 53] (by decide +kernel) (by decide +kernel)
set_option maxRecDepth 20000 in
theorem gX11_brothers_X10_twoFooted : GoodIn wsX11_brothers (wsV RX11 267 RX10 yX10_twoFooted wsX10_twoFooted) := goodIn_app (goodIn_of _ (by decide +kernel)) ggX11_brothers_X10_twoFooted
theorem dX11_brothers_0 : decode cX11_brothers 0 = .ok (.iload_n 1, 1) := by decide +kernel
theorem dX11_brothers_1 : decode cX11_brothers 1 = .ok (.ifCond .lt 24, 3) := by decide +kernel
theorem dX11_brothers_4 : decode cX11_brothers 4 = .ok (.iload_n 1, 1) := by decide +kernel
theorem dX11_brothers_5 : decode cX11_brothers 5 = .ok (.aload_n 0, 1) := by decide +kernel
theorem dX11_brothers_6 : decode cX11_brothers 6 = .ok (.getfield 10, 3) := by decide +kernel
theorem dX11_brothers_9 : decode cX11_brothers 9 = .ok (.getfield 170, 3) := by decide +kernel
theorem dX11_brothers_12 : decode cX11_brothers 12 = .ok (.ishr, 1) := by decide +kernel
theorem dX11_brothers_13 : decode cX11_brothers 13 = .ok (.ifCond .ne 12, 3) := by decide +kernel
theorem dX11_brothers_16 : decode cX11_brothers 16 = .ok (.iload_n 2, 1) := by decide +kernel
theorem dX11_brothers_17 : decode cX11_brothers 17 = .ok (.iconst 0, 1) := by decide +kernel
theorem dX11_brothers_18 : decode cX11_brothers 18 = .ok (.iconst 1, 1) := by decide +kernel
theorem dX11_brothers_19 : decode cX11_brothers 19 = .ok (.invokestatic 61, 3) := by decide +kernel
theorem dX11_brothers_22 : decode cX11_brothers 22 = .ok (.ifCond .ne 5, 3) := by decide +kernel
theorem dX11_brothers_25 : decode cX11_brothers 25 = .ok (.iconst (-1), 1) := by decide +kernel
theorem dX11_brothers_26 : decode cX11_brothers 26 = .ok (.ireturn, 1) := by decide +kernel
theorem dX11_brothers_27 : decode cX11_brothers 27 = .ok (.aload_n 0, 1) := by decide +kernel
theorem dX11_brothers_28 : decode cX11_brothers 28 = .ok (.getfield 10, 3) := by decide +kernel
theorem dX11_brothers_31 : decode cX11_brothers 31 = .ok (.iload_n 1, 1) := by decide +kernel
theorem dX11_brothers_32 : decode cX11_brothers 32 = .ok (.invokevirtual 264, 3) := by decide +kernel
theorem dX11_brothers_35 : decode cX11_brothers 35 = .ok (.istore_n 3, 1) := by decide +kernel
theorem dX11_brothers_36 : decode cX11_brothers 36 = .ok (.iload_n 2, 1) := by decide +kernel
theorem dX11_brothers_37 : decode cX11_brothers 37 = .ok (.ifCond .ne 7, 3) := by decide +kernel
theorem dX11_brothers_40 : decode cX11_brothers 40 = .ok (.iload_n 3, 1) := by decide +kernel
theorem dX11_brothers_41 : decode cX11_brothers 41 = .ok (.goto 15, 3) := by decide +kernel
theorem dX11_brothers_44 : decode cX11_brothers 44 = .ok (.iload_n 3, 1) := by decide +kernel
theorem dX11_brothers_45 : decode cX11_brothers 45 = .ok (.aload_n 0, 1) := by decide +kernel
theorem dX11_brothers_46 : decode cX11_brothers 46 = .ok (.getfield 10, 3) := by decide +kernel
theorem dX11_brothers_49 : decode cX11_brothers 49 = .ok (.iload_n 1, 1) := by decide +kernel
theorem dX11_brothers_50 : decode cX11_brothers 50 = .ok (.invokevirtual 267, 3) := by decide +kernel
theorem dX11_brothers_53 : decode cX11_brothers 53 = .ok (.invokestatic 270, 3) := by decide +kernel
theorem dX11_brothers_56 : decode cX11_brothers 56 = .ok (.ireturn, 1) := by decide +kernel
set_option maxRecDepth 20000 in
theorem ggX11_image_X10_become : GoodIn wsX11_image wsX10_become := goodIn_r _ [8, 9, 10, 11, 12, 13, 14, 15, 16, 17, 18, 19, 20, 21, 22, 23, 24, 25, 26, 27, 28, 29, 30, 31, 32, 33, 34, 35, 36, 37, 38, 39, 40, 41, 42, 43, 44, 45, 46, 47, 48, 49, 50, 51, 52, 53, 54, 55, 56, 57, 58, 59, 60, 61, 62, 63, 64, 74, 75, 76, 77, 78, 79, 80, 81, 82, 83, 84, 85, 86, 87, 88, 89, 90, 91, 92, 93, 94, 95, 96, 97, 98, 99, 100, 101, 102, 103] (by decide +kernel) (by decide +kernel)
set_option maxRecDepth 20000 in
theorem gX11_image_X10_become : GoodIn wsX11_image (wsV RX11 275 RX10 yX10_become wsX10_become) := goodIn_app (goodIn_of _ (by decide +kernel)) ggX11_image_X10_become
theorem dX11_image_0 : decode cX11_image 0 = .ok (.aload_n 0, 1) := by decide +kernel
theorem dX11_image_1 : decode cX11_image 1 = .ok (.getfield 16, 3) := by decide +kernel
theorem dX11_image_4 : decode cX11_image 4 = .ok (.aload_n 0, 1) := by decide +kernel
theorem dX11_image_5 : decode cX11_image 5 = .ok (.getfield 10, 3) := by decide +kernel
theorem dX11_image_8 : decode cX11_image 8 = .ok (.invokevirtual 275, 3) := by decide +kernel
theorem dX11_image_11 : decode cX11_image 11 = .ok (.aload_n 0, 1) := by decide +kernel
theorem dX11_image_12 : decode cX11_image 12 = .ok (.iconst 1, 1) := by decide +kernel
theorem dX11_image_13 : decode cX11_image 13 = .ok (.putfield 278, 3) := by decide +kernel
theorem dX11_image_16 : decode cX11_image 16 = .ok (.iconst 1, 1) := by decide +kernel
theorem dX11_image_17 : decode cX11_image 17 = .ok (.ireturn, 1) := by decide +kernel
set_option maxRecDepth 20000 in
theorem ggX11_restore_X10_become : GoodIn wsX11_restore wsX10_become := goodIn_r _ [8, 9, 10, 11, 12, 13, 14, 15, 16, 17, 18, 19, 20, 21, 22, 23, 24, 25, 26, 27, 28, 29, 30, 31, 32, 33, 34, 35, 36, 37, 38, 39, 40, 41, 42, 43, 44, 45, 46, 47, 48, 49, 50, 51, 52, 53, 54, 55, 56, 57, 58, 59, 60, 61, 62, 63, 64, 74, 75, 76, 77, 78, 79, 80, 81, 82, 83, 84, 85, 86, 87, 88, 89, 90, 91, 92, 93, 94, 95, 96, 97, 98, 99, 100, 101, 102, 103] (by decide +kernel) (by decide +kernel)
set_option maxRecDepth 20000 in
theorem gX11_restore_X10_become : GoodIn wsX11_restore (wsV RX11 275 RX10 yX10_become wsX10_become) := goodIn_app (goodIn_of _ (by decide +kernel)) ggX11_restore_X10_become
theorem dX11_restore_0 : decode cX11_restore 0 = .ok (.aload_n 0, 1) := by decide +kernel
theorem dX11_restore_1 : decode cX11_restore 1 = .ok (.getfield 278, 3) := by decide +kernel
theorem dX11_restore_4 : decode cX11_restore 4 = .ok (.ifCond .ne 6, 3) := by decide +kernel
theorem dX11_restore_7 : decode cX11_restore 7 = .ok (.bipush (-4), 2) := by decide +kernel
theorem dX11_restore_9 : decode cX11_restore 9 = .ok (.ireturn, 1) := by decide +kernel
theorem dX11_restore_10 : decode cX11_restore 10 = .ok (.aload_n 0, 1) := by decide +kernel
theorem dX11_restore_11 : decode cX11_restore 11 = .ok (.getfield 10, 3) := by decide +kernel
theorem dX11_restore_14 : decode cX11_restore 14 = .ok (.aload_n 0, 1) := by decide +kernel
theorem dX11_restore_15 : decode cX11_restore 15 = .ok (.getfield 16, 3) := by decide +kernel
theorem dX11_restore_18 : decode cX11_restore 18 = .ok (.invokevirtual 275, 3) := by decide +kernel
theorem dX11_restore_21 : decode cX11_restore 21 = .ok (.iconst 1, 1) := by decide +kernel
theorem dX11_restore_22 : decode cX11_restore 22 = .ok (.ireturn, 1) := by decide +kernel
set_option maxRecDepth 20000 in
theorem ggX11_prints_X11_isWithin : GoodIn wsX11_prints wsX11_isWithin := goodIn_r _ [6] (by decide +kernel) (by decide +kernel)
set_option maxRecDepth 20000 in
theorem gX11_prints_X11_isWithin : GoodIn wsX11_prints (va_wsS RX11 61 yX11_isWithin wsX11_isWithin) := goodIn_app (goodIn_of _ (by decide +kernel)) ggX11_prints_X11_isWithin
set_option maxRecDepth 20000 in
theorem ggX11_prints_X11_readTrail : GoodIn wsX11_prints wsX11_readTrail := goodIn_r _ [10, 2, 11, 1, 12, 13, 5, 14, 3, 4, 6, 15, 16, 17, 18, 19, 20, 21, 22, 23, 24, 25, 26, 27, 28, 29, 30, 31, 32, 33, 34, 35, 36, 37, 38, 39, 40, 41, 42, 43, 44, 45, 46, 81, 82, 83, 84, 85, 86, 87, 88, 89, 90, 91, 92, 93, 94, 95, 96, 97, 98, 99, 100, 101, 102, 103] (by decide +kernel) (by decide +kernel)
set_option maxRecDepth 20000 in
theorem gX11_prints_X11_readTrail : GoodIn wsX11_prints (wsV RX11 281 RX11 yX11_readTrail wsX11_readTrail) := goodIn_app (goodIn_of _ (by decide +kernel)) ggX11_prints_X11_readTrail
set_option maxRecDepth 20000 in
theorem ggX11_prints_X8_waysOf : GoodIn wsX11_prints wsX8_waysOf := goodIn_r _ [50, 51, 52, 53, 54, 42, 55, 56, 57, 58, 59, 60, 61, 62, 44, 45, 63, 64, 65, 66, 67, 68, 69, 70, 71, 72, 73, 74, 90, 91, 92, 93, 94, 95, 96, 97, 98, 104, 105, 106, 107, 108, 102, 103] (by decide +kernel) (by decide +kernel)
set_option maxRecDepth 20000 in
theorem gX11_prints_X8_waysOf : GoodIn wsX11_prints (wsV RX11 285 RX8 yX8_waysOf wsX8_waysOf) := goodIn_app (goodIn_of _ (by decide +kernel)) ggX11_prints_X8_waysOf
set_option maxRecDepth 20000 in
theorem ggX11_prints_X8_waysOfAll : GoodIn wsX11_prints wsX8_waysOfAll := goodIn_r _ [78, 79, 80, 48, 49, 42, 50, 51, 52, 53, 54, 55, 56, 57, 58, 59, 60, 61, 62, 44, 45, 63, 64, 65, 66, 67, 68, 69, 70, 71, 72, 73, 74, 90, 91, 92, 93, 94, 95, 96, 97, 98, 104, 105, 106, 107, 108, 102, 103] (by decide +kernel) (by decide +kernel)
set_option maxRecDepth 20000 in
theorem gX11_prints_X8_waysOfAll : GoodIn wsX11_prints (wsV RX11 289 RX8 yX8_waysOfAll wsX8_waysOfAll) := goodIn_app (goodIn_of _ (by decide +kernel)) ggX11_prints_X8_waysOfAll
theorem dX11_prints_0 : decode cX11_prints 0 = .ok (.iload 6, 2) := by decide +kernel
theorem dX11_prints_2 : decode cX11_prints 2 = .ok (.iconst 0, 1) := by decide +kernel
theorem dX11_prints_3 : decode cX11_prints 3 = .ok (.iconst 1, 1) := by decide +kernel
theorem dX11_prints_4 : decode cX11_prints 4 = .ok (.invokestatic 61, 3) := by decide +kernel
theorem dX11_prints_7 : decode cX11_prints 7 = .ok (.ifCond .ne 5, 3) := by decide +kernel
theorem dX11_prints_10 : decode cX11_prints 10 = .ok (.iconst (-1), 1) := by decide +kernel
theorem dX11_prints_11 : decode cX11_prints 11 = .ok (.ireturn, 1) := by decide +kernel
theorem dX11_prints_12 : decode cX11_prints 12 = .ok (.aload_n 0, 1) := by decide +kernel
theorem dX11_prints_13 : decode cX11_prints 13 = .ok (.iload_n 1, 1) := by decide +kernel
theorem dX11_prints_14 : decode cX11_prints 14 = .ok (.iload_n 2, 1) := by decide +kernel
theorem dX11_prints_15 : decode cX11_prints 15 = .ok (.iload_n 3, 1) := by decide +kernel
theorem dX11_prints_16 : decode cX11_prints 16 = .ok (.iload 4, 2) := by decide +kernel
theorem dX11_prints_18 : decode cX11_prints 18 = .ok (.iload 5, 2) := by decide +kernel
theorem dX11_prints_20 : decode cX11_prints 20 = .ok (.invokevirtual 281, 3) := by decide +kernel
theorem dX11_prints_23 : decode cX11_prints 23 = .ok (.istore 7, 2) := by decide +kernel
theorem dX11_prints_25 : decode cX11_prints 25 = .ok (.iload 7, 2) := by decide +kernel
theorem dX11_prints_27 : decode cX11_prints 27 = .ok (.ifCond .ge 6, 3) := by decide +kernel
theorem dX11_prints_30 : decode cX11_prints 30 = .ok (.iload 7, 2) := by decide +kernel
theorem dX11_prints_32 : decode cX11_prints 32 = .ok (.ireturn, 1) := by decide +kernel
theorem dX11_prints_33 : decode cX11_prints 33 = .ok (.iload 6, 2) := by decide +kernel
theorem dX11_prints_35 : decode cX11_prints 35 = .ok (.ifCond .ne 19, 3) := by decide +kernel
theorem dX11_prints_38 : decode cX11_prints 38 = .ok (.aload_n 0, 1) := by decide +kernel
theorem dX11_prints_39 : decode cX11_prints 39 = .ok (.getfield 50, 3) := by decide +kernel
theorem dX11_prints_42 : decode cX11_prints 42 = .ok (.aload_n 0, 1) := by decide +kernel
theorem dX11_prints_43 : decode cX11_prints 43 = .ok (.getfield 10, 3) := by decide +kernel
theorem dX11_prints_46 : decode cX11_prints 46 = .ok (.iload 5, 2) := by decide +kernel
theorem dX11_prints_48 : decode cX11_prints 48 = .ok (.invokevirtual 285, 3) := by decide +kernel
theorem dX11_prints_51 : decode cX11_prints 51 = .ok (.goto 14, 3) := by decide +kernel
theorem dX11_prints_54 : decode cX11_prints 54 = .ok (.aload_n 0, 1) := by decide +kernel
theorem dX11_prints_55 : decode cX11_prints 55 = .ok (.getfield 50, 3) := by decide +kernel
theorem dX11_prints_58 : decode cX11_prints 58 = .ok (.aload_n 0, 1) := by decide +kernel
theorem dX11_prints_59 : decode cX11_prints 59 = .ok (.getfield 10, 3) := by decide +kernel
theorem dX11_prints_62 : decode cX11_prints 62 = .ok (.invokevirtual 289, 3) := by decide +kernel
theorem dX11_prints_65 : decode cX11_prints 65 = .ok (.ireturn, 1) := by decide +kernel
set_option maxRecDepth 20000 in
theorem ggX11_odds_X11_isWithin : GoodIn wsX11_odds wsX11_isWithin := goodIn_r _ [6] (by decide +kernel) (by decide +kernel)
set_option maxRecDepth 20000 in
theorem gX11_odds_X11_isWithin : GoodIn wsX11_odds (va_wsS RX11 61 yX11_isWithin wsX11_isWithin) := goodIn_app (goodIn_of _ (by decide +kernel)) ggX11_odds_X11_isWithin
set_option maxRecDepth 20000 in
theorem ggX11_odds_X11_readTrail : GoodIn wsX11_odds wsX11_readTrail := goodIn_r _ [10, 2, 11, 1, 12, 13, 5, 14, 3, 4, 6, 15, 16, 17, 18, 19, 20, 21, 22, 23, 24, 25, 26, 27, 28, 29, 30, 31, 32, 33, 34, 35, 36, 37, 38, 39, 40, 41, 42, 43, 44, 45, 46, 87, 88, 89, 90, 91, 92, 93, 94, 95, 96, 97, 98, 99, 100, 101, 102, 103, 104, 105, 106, 107, 108, 109] (by decide +kernel) (by decide +kernel)
set_option maxRecDepth 20000 in
theorem gX11_odds_X11_readTrail : GoodIn wsX11_odds (wsV RX11 281 RX11 yX11_readTrail wsX11_readTrail) := goodIn_app (goodIn_of _ (by decide +kernel)) ggX11_odds_X11_readTrail
set_option maxRecDepth 20000 in
theorem ggX11_odds_X8_waysOfAll : GoodIn wsX11_odds wsX8_waysOfAll := goodIn_r _ [50, 51, 52, 53, 54, 42, 55, 56, 57, 58, 59, 60, 61, 62, 63, 64, 65, 66, 67, 44, 45, 68, 69, 70, 71, 72, 73, 74, 75, 76, 77, 78, 79, 96, 97, 98, 99, 100, 101, 102, 103, 104, 110, 111, 112, 113, 114, 108, 109] (by decide +kernel) (by decide +kernel)
set_option maxRecDepth 20000 in
theorem gX11_odds_X8_waysOfAll : GoodIn wsX11_odds (wsV RX11 289 RX8 yX8_waysOfAll wsX8_waysOfAll) := goodIn_app (goodIn_of _ (by decide +kernel)) ggX11_odds_X8_waysOfAll
set_option maxRecDepth 20000 in
theorem ggX11_odds_X8_waysOf : GoodIn wsX11_odds wsX8_waysOf := goodIn_r _ [55, 56, 57, 58, 59, 42, 60, 61, 62, 63, 64, 65, 66, 67, 44, 45, 68, 69, 70, 71, 72, 73, 74, 75, 76, 77, 78, 79, 96, 97, 98, 99, 100, 101, 102, 103, 104, 110, 111, 112, 113, 114, 108, 109] (by decide +kernel) (by decide +kernel)
set_option maxRecDepth 20000 in
theorem gX11_odds_X8_waysOf : GoodIn wsX11_odds (wsV RX11 285 RX8 yX8_waysOf wsX8_waysOf) := goodIn_app (goodIn_of _ (by decide +kernel)) ggX11_odds_X8_waysOf
set_option maxRecDepth 20000 in
theorem ggX11_odds_X11_partOf : GoodIn wsX11_odds wsX11_partOf := goodIn_r _ [83, 84, 85, 5, 86] (by decide +kernel) (by decide +kernel)
set_option maxRecDepth 20000 in
theorem gX11_odds_X11_partOf : GoodIn wsX11_odds (va_wsS RX11 246 yX11_partOf wsX11_partOf) := goodIn_app (goodIn_of _ (by decide +kernel)) ggX11_odds_X11_partOf
theorem dX11_odds_0 : decode cX11_odds 0 = .ok (.iload 6, 2) := by decide +kernel
theorem dX11_odds_2 : decode cX11_odds 2 = .ok (.iconst 0, 1) := by decide +kernel
theorem dX11_odds_3 : decode cX11_odds 3 = .ok (.iconst 1, 1) := by decide +kernel
theorem dX11_odds_4 : decode cX11_odds 4 = .ok (.invokestatic 61, 3) := by decide +kernel
theorem dX11_odds_7 : decode cX11_odds 7 = .ok (.ifCond .ne 5, 3) := by decide +kernel
theorem dX11_odds_10 : decode cX11_odds 10 = .ok (.iconst (-1), 1) := by decide +kernel
theorem dX11_odds_11 : decode cX11_odds 11 = .ok (.ireturn, 1) := by decide +kernel
theorem dX11_odds_12 : decode cX11_odds 12 = .ok (.aload_n 0, 1) := by decide +kernel
theorem dX11_odds_13 : decode cX11_odds 13 = .ok (.iload_n 1, 1) := by decide +kernel
theorem dX11_odds_14 : decode cX11_odds 14 = .ok (.iload_n 2, 1) := by decide +kernel
theorem dX11_odds_15 : decode cX11_odds 15 = .ok (.iload_n 3, 1) := by decide +kernel
theorem dX11_odds_16 : decode cX11_odds 16 = .ok (.iload 4, 2) := by decide +kernel
theorem dX11_odds_18 : decode cX11_odds 18 = .ok (.iload 5, 2) := by decide +kernel
theorem dX11_odds_20 : decode cX11_odds 20 = .ok (.invokevirtual 281, 3) := by decide +kernel
theorem dX11_odds_23 : decode cX11_odds 23 = .ok (.istore 7, 2) := by decide +kernel
theorem dX11_odds_25 : decode cX11_odds 25 = .ok (.iload 7, 2) := by decide +kernel
theorem dX11_odds_27 : decode cX11_odds 27 = .ok (.ifCond .ge 6, 3) := by decide +kernel
theorem dX11_odds_30 : decode cX11_odds 30 = .ok (.iload 7, 2) := by decide +kernel
theorem dX11_odds_32 : decode cX11_odds 32 = .ok (.ireturn, 1) := by decide +kernel
theorem dX11_odds_33 : decode cX11_odds 33 = .ok (.aload_n 0, 1) := by decide +kernel
theorem dX11_odds_34 : decode cX11_odds 34 = .ok (.getfield 50, 3) := by decide +kernel
theorem dX11_odds_37 : decode cX11_odds 37 = .ok (.aload_n 0, 1) := by decide +kernel
theorem dX11_odds_38 : decode cX11_odds 38 = .ok (.getfield 10, 3) := by decide +kernel
theorem dX11_odds_41 : decode cX11_odds 41 = .ok (.invokevirtual 289, 3) := by decide +kernel
theorem dX11_odds_44 : decode cX11_odds 44 = .ok (.istore 8, 2) := by decide +kernel
theorem dX11_odds_46 : decode cX11_odds 46 = .ok (.iload 8, 2) := by decide +kernel
theorem dX11_odds_48 : decode cX11_odds 48 = .ok (.ifCond .ne 8, 3) := by decide +kernel
theorem dX11_odds_51 : decode cX11_odds 51 = .ok (.bipush (-4), 2) := by decide +kernel
theorem dX11_odds_53 : decode cX11_odds 53 = .ok (.goto 23, 3) := by decide +kernel
theorem dX11_odds_56 : decode cX11_odds 56 = .ok (.aload_n 0, 1) := by decide +kernel
theorem dX11_odds_57 : decode cX11_odds 57 = .ok (.getfield 50, 3) := by decide +kernel
theorem dX11_odds_60 : decode cX11_odds 60 = .ok (.aload_n 0, 1) := by decide +kernel
theorem dX11_odds_61 : decode cX11_odds 61 = .ok (.getfield 10, 3) := by decide +kernel
theorem dX11_odds_64 : decode cX11_odds 64 = .ok (.iload 5, 2) := by decide +kernel
theorem dX11_odds_66 : decode cX11_odds 66 = .ok (.invokevirtual 285, 3) := by decide +kernel
theorem dX11_odds_69 : decode cX11_odds 69 = .ok (.iload 8, 2) := by decide +kernel
theorem dX11_odds_71 : decode cX11_odds 71 = .ok (.iload 6, 2) := by decide +kernel
theorem dX11_odds_73 : decode cX11_odds 73 = .ok (.invokestatic 246, 3) := by decide +kernel
theorem dX11_odds_76 : decode cX11_odds 76 = .ok (.ireturn, 1) := by decide +kernel
set_option maxRecDepth 20000 in
theorem ggX11_book_X11_isSheet : GoodIn wsX11_book wsX11_isSheet := goodIn_r _ [6, 7, 8, 5, 9] (by decide +kernel) (by decide +kernel)
set_option maxRecDepth 20000 in
theorem gX11_book_X11_isSheet : GoodIn wsX11_book (va_wsS RX11 293 yX11_isSheet wsX11_isSheet) := goodIn_app (goodIn_of _ (by decide +kernel)) ggX11_book_X11_isSheet
set_option maxRecDepth 20000 in
theorem ggX11_book_X11_isLane : GoodIn wsX11_book wsX11_isLane := goodIn_r _ [12, 7, 8, 5, 9] (by decide +kernel) (by decide +kernel)
set_option maxRecDepth 20000 in
theorem gX11_book_X11_isLane : GoodIn wsX11_book (va_wsS RX11 296 yX11_isLane wsX11_isLane) := goodIn_app (goodIn_of _ (by decide +kernel)) ggX11_book_X11_isLane
set_option maxRecDepth 20000 in
theorem ggX11_book_X11_isWithin : GoodIn wsX11_book wsX11_isWithin := goodIn_r _ [9] (by decide +kernel) (by decide +kernel)
set_option maxRecDepth 20000 in
theorem gX11_book_X11_isWithin : GoodIn wsX11_book (va_wsS RX11 61 yX11_isWithin wsX11_isWithin) := goodIn_app (goodIn_of _ (by decide +kernel)) ggX11_book_X11_isWithin
set_option maxRecDepth 20000 in
theorem ggX11_book_X4_refusal : GoodIn wsX11_book wsX4_refusal := goodIn_r _ [17, 18, 19, 20, 21, 16, 22, 23, 24, 25, 26, 27, 50, 51, 52] (by decide +kernel) (by decide +kernel)
set_option maxRecDepth 20000 in
theorem gX11_book_X4_refusal : GoodIn wsX11_book (wsV RX11 299 RX4 yX4_refusal wsX4_refusal) := goodIn_app (goodIn_of _ (by decide +kernel)) ggX11_book_X4_refusal
set_option maxRecDepth 20000 in
theorem ggX11_book_X10_canBe : GoodIn wsX11_book wsX10_canBe := goodIn_r _ [32, 33, 34, 35, 36, 37, 38, 31, 39, 40, 8, 5, 9, 50, 51, 52, 53, 54, 55, 56, 57, 58, 59, 60, 61, 62, 63, 64, 65, 66] (by decide +kernel) (by decide +kernel)
set_option maxRecDepth 20000 in
theorem gX11_book_X10_canBe : GoodIn wsX11_book (wsV RX11 302 RX10 yX10_canBe wsX10_canBe) := goodIn_app (goodIn_of _ (by decide +kernel)) ggX11_book_X10_canBe
theorem dX11_book_0 : decode cX11_book 0 = .ok (.iload_n 1, 1) := by decide +kernel
theorem dX11_book_1 : decode cX11_book 1 = .ok (.invokestatic 293, 3) := by decide +kernel
theorem dX11_book_4 : decode cX11_book 4 = .ok (.ifCond .eq 21, 3) := by decide +kernel
theorem dX11_book_7 : decode cX11_book 7 = .ok (.iload_n 2, 1) := by decide +kernel
theorem dX11_book_8 : decode cX11_book 8 = .ok (.invokestatic 296, 3) := by decide +kernel
theorem dX11_book_11 : decode cX11_book 11 = .ok (.ifCond .eq 14, 3) := by decide +kernel
theorem dX11_book_14 : decode cX11_book 14 = .ok (.iload 4, 2) := by decide +kernel
theorem dX11_book_16 : decode cX11_book 16 = .ok (.iconst 1, 1) := by decide +kernel
theorem dX11_book_17 : decode cX11_book 17 = .ok (.bipush 12, 2) := by decide +kernel
theorem dX11_book_19 : decode cX11_book 19 = .ok (.invokestatic 61, 3) := by decide +kernel
theorem dX11_book_22 : decode cX11_book 22 = .ok (.ifCond .ne 5, 3) := by decide +kernel
theorem dX11_book_25 : decode cX11_book 25 = .ok (.iconst (-1), 1) := by decide +kernel
theorem dX11_book_26 : decode cX11_book 26 = .ok (.ireturn, 1) := by decide +kernel
theorem dX11_book_27 : decode cX11_book 27 = .ok (.aload_n 0, 1) := by decide +kernel
theorem dX11_book_28 : decode cX11_book 28 = .ok (.getfield 56, 3) := by decide +kernel
theorem dX11_book_31 : decode cX11_book 31 = .ok (.iload_n 1, 1) := by decide +kernel
theorem dX11_book_32 : decode cX11_book 32 = .ok (.aaload, 1) := by decide +kernel
theorem dX11_book_33 : decode cX11_book 33 = .ok (.iload_n 2, 1) := by decide +kernel
theorem dX11_book_34 : decode cX11_book 34 = .ok (.iload_n 3, 1) := by decide +kernel
theorem dX11_book_35 : decode cX11_book 35 = .ok (.iconst 2, 1) := by decide +kernel
theorem dX11_book_36 : decode cX11_book 36 = .ok (.iload 4, 2) := by decide +kernel
theorem dX11_book_38 : decode cX11_book 38 = .ok (.imul, 1) := by decide +kernel
theorem dX11_book_39 : decode cX11_book 39 = .ok (.invokevirtual 299, 3) := by decide +kernel
theorem dX11_book_42 : decode cX11_book 42 = .ok (.istore 5, 2) := by decide +kernel
theorem dX11_book_44 : decode cX11_book 44 = .ok (.iload 5, 2) := by decide +kernel
theorem dX11_book_46 : decode cX11_book 46 = .ok (.ifCond .ge 6, 3) := by decide +kernel
theorem dX11_book_49 : decode cX11_book 49 = .ok (.iload 5, 2) := by decide +kernel
theorem dX11_book_51 : decode cX11_book 51 = .ok (.ireturn, 1) := by decide +kernel
theorem dX11_book_52 : decode cX11_book 52 = .ok (.iconst 0, 1) := by decide +kernel
theorem dX11_book_53 : decode cX11_book 53 = .ok (.istore 6, 2) := by decide +kernel
theorem dX11_book_55 : decode cX11_book 55 = .ok (.iload 6, 2) := by decide +kernel
theorem dX11_book_57 : decode cX11_book 57 = .ok (.iload 4, 2) := by decide +kernel
theorem dX11_book_59 : decode cX11_book 59 = .ok (.if_icmp .ge 31, 3) := by decide +kernel
theorem dX11_book_62 : decode cX11_book 62 = .ok (.aload_n 0, 1) := by decide +kernel
theorem dX11_book_63 : decode cX11_book 63 = .ok (.getfield 10, 3) := by decide +kernel
theorem dX11_book_66 : decode cX11_book 66 = .ok (.aload_n 0, 1) := by decide +kernel
theorem dX11_book_67 : decode cX11_book 67 = .ok (.getfield 56, 3) := by decide +kernel
theorem dX11_book_70 : decode cX11_book 70 = .ok (.iload_n 1, 1) := by decide +kernel
theorem dX11_book_71 : decode cX11_book 71 = .ok (.aaload, 1) := by decide +kernel
theorem dX11_book_72 : decode cX11_book 72 = .ok (.iload_n 3, 1) := by decide +kernel
theorem dX11_book_73 : decode cX11_book 73 = .ok (.iload 6, 2) := by decide +kernel
theorem dX11_book_75 : decode cX11_book 75 = .ok (.invokevirtual 302, 3) := by decide +kernel
theorem dX11_book_78 : decode cX11_book 78 = .ok (.ifCond .ne 6, 3) := by decide +kernel
theorem dX11_book_81 : decode cX11_book 81 = .ok (.iload 6, 2) := by decide +kernel
theorem dX11_book_83 : decode cX11_book 83 = .ok (.ireturn, 1) := by decide +kernel
theorem dX11_book_84 : decode cX11_book 84 = .ok (.iinc 6 1, 3) := by decide +kernel
theorem dX11_book_87 : decode cX11_book 87 = .ok (.goto (-32), 3) := by decide +kernel
theorem dX11_book_90 : decode cX11_book 90 = .ok (.bipush (-4), 2) := by decide +kernel
theorem dX11_book_92 : decode cX11_book 92 = .ok (.ireturn, 1) := by decide +kernel
set_option maxRecDepth 20000 in
theorem ggX11_sheet_X11_isSheet : GoodIn wsX11_sheet wsX11_isSheet := goodIn_r _ [5, 6, 7, 4, 8] (by decide +kernel) (by decide +kernel)
set_option maxRecDepth 20000 in
theorem gX11_sheet_X11_isSheet : GoodIn wsX11_sheet (va_wsS RX11 293 yX11_isSheet wsX11_isSheet) := goodIn_app (goodIn_of _ (by decide +kernel)) ggX11_sheet_X11_isSheet
set_option maxRecDepth 20000 in
theorem ggX11_sheet_X11_isLane : GoodIn wsX11_sheet wsX11_isLane := goodIn_r _ [11, 6, 7, 4, 8] (by decide +kernel) (by decide +kernel)
set_option maxRecDepth 20000 in
theorem gX11_sheet_X11_isLane : GoodIn wsX11_sheet (va_wsS RX11 296 yX11_isLane wsX11_isLane) := goodIn_app (goodIn_of _ (by decide +kernel)) ggX11_sheet_X11_isLane
set_option maxRecDepth 20000 in
theorem ggX11_sheet_X4_begin : GoodIn wsX11_sheet wsX4_begin := goodIn_r _ [16, 17, 18, 19, 20, 21, 22, 23, 33, 34, 35] (by decide +kernel) (by decide +kernel)
set_option maxRecDepth 20000 in
theorem gX11_sheet_X4_begin : GoodIn wsX11_sheet (wsV RX11 306 RX4 yX4_begin wsX4_begin) := goodIn_app (goodIn_of _ (by decide +kernel)) ggX11_sheet_X4_begin
theorem dX11_sheet_0 : decode cX11_sheet 0 = .ok (.iload_n 1, 1) := by decide +kernel
theorem dX11_sheet_1 : decode cX11_sheet 1 = .ok (.invokestatic 293, 3) := by decide +kernel
theorem dX11_sheet_4 : decode cX11_sheet 4 = .ok (.ifCond .eq 16, 3) := by decide +kernel
theorem dX11_sheet_7 : decode cX11_sheet 7 = .ok (.iload_n 2, 1) := by decide +kernel
theorem dX11_sheet_8 : decode cX11_sheet 8 = .ok (.invokestatic 296, 3) := by decide +kernel
theorem dX11_sheet_11 : decode cX11_sheet 11 = .ok (.ifCond .eq 9, 3) := by decide +kernel
theorem dX11_sheet_14 : decode cX11_sheet 14 = .ok (.iload_n 3, 1) := by decide +kernel
theorem dX11_sheet_15 : decode cX11_sheet 15 = .ok (.bipush 24, 2) := by decide +kernel
theorem dX11_sheet_17 : decode cX11_sheet 17 = .ok (.if_icmp .le 5, 3) := by decide +kernel
theorem dX11_sheet_20 : decode cX11_sheet 20 = .ok (.iconst (-1), 1) := by decide +kernel
theorem dX11_sheet_21 : decode cX11_sheet 21 = .ok (.ireturn, 1) := by decide +kernel
theorem dX11_sheet_22 : decode cX11_sheet 22 = .ok (.iload_n 3, 1) := by decide +kernel
theorem dX11_sheet_23 : decode cX11_sheet 23 = .ok (.ifCond .ge 6, 3) := by decide +kernel
theorem dX11_sheet_26 : decode cX11_sheet 26 = .ok (.bipush (-14), 2) := by decide +kernel
theorem dX11_sheet_28 : decode cX11_sheet 28 = .ok (.ireturn, 1) := by decide +kernel
theorem dX11_sheet_29 : decode cX11_sheet 29 = .ok (.aload_n 0, 1) := by decide +kernel
theorem dX11_sheet_30 : decode cX11_sheet 30 = .ok (.getfield 56, 3) := by decide +kernel
theorem dX11_sheet_33 : decode cX11_sheet 33 = .ok (.iload_n 1, 1) := by decide +kernel
theorem dX11_sheet_34 : decode cX11_sheet 34 = .ok (.aaload, 1) := by decide +kernel
theorem dX11_sheet_35 : decode cX11_sheet 35 = .ok (.iload_n 2, 1) := by decide +kernel
theorem dX11_sheet_36 : decode cX11_sheet 36 = .ok (.iload_n 3, 1) := by decide +kernel
theorem dX11_sheet_37 : decode cX11_sheet 37 = .ok (.invokevirtual 306, 3) := by decide +kernel
theorem dX11_sheet_40 : decode cX11_sheet 40 = .ok (.iload_n 3, 1) := by decide +kernel
theorem dX11_sheet_41 : decode cX11_sheet 41 = .ok (.ireturn, 1) := by decide +kernel
set_option maxRecDepth 20000 in
theorem ggX11_drop_X11_isSheet : GoodIn wsX11_drop wsX11_isSheet := goodIn_r _ [6, 7, 8, 5, 9] (by decide +kernel) (by decide +kernel)
set_option maxRecDepth 20000 in
theorem gX11_drop_X11_isSheet : GoodIn wsX11_drop (va_wsS RX11 293 yX11_isSheet wsX11_isSheet) := goodIn_app (goodIn_of _ (by decide +kernel)) ggX11_drop_X11_isSheet
set_option maxRecDepth 20000 in
theorem ggX11_drop_X4_isNothing : GoodIn wsX11_drop wsX4_isNothing := goodIn_r _ [14, 15, 30, 31, 32] (by decide +kernel) (by decide +kernel)
set_option maxRecDepth 20000 in
theorem gX11_drop_X4_isNothing : GoodIn wsX11_drop (wsV RX11 310 RX4 yX4_isNothing wsX4_isNothing) := goodIn_app (goodIn_of _ (by decide +kernel)) ggX11_drop_X4_isNothing
set_option maxRecDepth 20000 in
theorem ggX11_drop_X4_clear : GoodIn wsX11_drop wsX4_clear := goodIn_r _ [19, 15, 20, 30, 31, 32] (by decide +kernel) (by decide +kernel)
set_option maxRecDepth 20000 in
theorem gX11_drop_X4_clear : GoodIn wsX11_drop (wsV RX11 317 RX4 yX4_clear wsX4_clear) := goodIn_app (goodIn_of _ (by decide +kernel)) ggX11_drop_X4_clear
theorem dX11_drop_0 : decode cX11_drop 0 = .ok (.iload_n 1, 1) := by decide +kernel
theorem dX11_drop_1 : decode cX11_drop 1 = .ok (.invokestatic 293, 3) := by decide +kernel
theorem dX11_drop_4 : decode cX11_drop 4 = .ok (.ifCond .ne 5, 3) := by decide +kernel
theorem dX11_drop_7 : decode cX11_drop 7 = .ok (.iconst (-1), 1) := by decide +kernel
theorem dX11_drop_8 : decode cX11_drop 8 = .ok (.ireturn, 1) := by decide +kernel
theorem dX11_drop_9 : decode cX11_drop 9 = .ok (.aload_n 0, 1) := by decide +kernel
theorem dX11_drop_10 : decode cX11_drop 10 = .ok (.getfield 56, 3) := by decide +kernel
theorem dX11_drop_13 : decode cX11_drop 13 = .ok (.iload_n 1, 1) := by decide +kernel
theorem dX11_drop_14 : decode cX11_drop 14 = .ok (.aaload, 1) := by decide +kernel
theorem dX11_drop_15 : decode cX11_drop 15 = .ok (.astore_n 2, 1) := by decide +kernel
theorem dX11_drop_16 : decode cX11_drop 16 = .ok (.aload_n 2, 1) := by decide +kernel
theorem dX11_drop_17 : decode cX11_drop 17 = .ok (.invokevirtual 310, 3) := by decide +kernel
theorem dX11_drop_20 : decode cX11_drop 20 = .ok (.ifCond .eq 6, 3) := by decide +kernel
theorem dX11_drop_23 : decode cX11_drop 23 = .ok (.bipush (-11), 2) := by decide +kernel
theorem dX11_drop_25 : decode cX11_drop 25 = .ok (.ireturn, 1) := by decide +kernel
theorem dX11_drop_26 : decode cX11_drop 26 = .ok (.aload_n 2, 1) := by decide +kernel
theorem dX11_drop_27 : decode cX11_drop 27 = .ok (.getfield 314, 3) := by decide +kernel
theorem dX11_drop_30 : decode cX11_drop 30 = .ok (.istore_n 3, 1) := by decide +kernel
theorem dX11_drop_31 : decode cX11_drop 31 = .ok (.aload_n 2, 1) := by decide +kernel
theorem dX11_drop_32 : decode cX11_drop 32 = .ok (.invokevirtual 317, 3) := by decide +kernel
theorem dX11_drop_35 : decode cX11_drop 35 = .ok (.iload_n 3, 1) := by decide +kernel
theorem dX11_drop_36 : decode cX11_drop 36 = .ok (.ireturn, 1) := by decide +kernel
set_option maxRecDepth 20000 in
theorem ggX11_item_X11_isSheet : GoodIn wsX11_item wsX11_isSheet := goodIn_r _ [5, 6, 7, 4, 8] (by decide +kernel) (by decide +kernel)
set_option maxRecDepth 20000 in
theorem gX11_item_X11_isSheet : GoodIn wsX11_item (va_wsS RX11 293 yX11_isSheet wsX11_isSheet) := goodIn_app (goodIn_of _ (by decide +kernel)) ggX11_item_X11_isSheet
set_option maxRecDepth 20000 in
theorem ggX11_item_X11_isLane : GoodIn wsX11_item wsX11_isLane := goodIn_r _ [11, 6, 7, 4, 8] (by decide +kernel) (by decide +kernel)
set_option maxRecDepth 20000 in
theorem gX11_item_X11_isLane : GoodIn wsX11_item (va_wsS RX11 296 yX11_isLane wsX11_isLane) := goodIn_app (goodIn_of _ (by decide +kernel)) ggX11_item_X11_isLane
set_option maxRecDepth 20000 in
theorem ggX11_item_X4_refusal : GoodIn wsX11_item wsX4_refusal := goodIn_r _ [16, 17, 18, 19, 20, 15, 21, 22, 23, 24, 25, 26, 41, 42, 43] (by decide +kernel) (by decide +kernel)
set_option maxRecDepth 20000 in
theorem gX11_item_X4_refusal : GoodIn wsX11_item (wsV RX11 299 RX4 yX4_refusal wsX4_refusal) := goodIn_app (goodIn_of _ (by decide +kernel)) ggX11_item_X4_refusal
set_option maxRecDepth 20000 in
theorem ggX11_item_X4_put : GoodIn wsX11_item wsX4_put := goodIn_r _ [30, 31, 17, 41, 42, 43] (by decide +kernel) (by decide +kernel)
set_option maxRecDepth 20000 in
theorem gX11_item_X4_put : GoodIn wsX11_item (wsV RX11 318 RX4 yX4_put wsX4_put) := goodIn_app (goodIn_of _ (by decide +kernel)) ggX11_item_X4_put
theorem dX11_item_0 : decode cX11_item 0 = .ok (.iload_n 1, 1) := by decide +kernel
theorem dX11_item_1 : decode cX11_item 1 = .ok (.invokestatic 293, 3) := by decide +kernel
theorem dX11_item_4 : decode cX11_item 4 = .ok (.ifCond .eq 10, 3) := by decide +kernel
theorem dX11_item_7 : decode cX11_item 7 = .ok (.iload_n 2, 1) := by decide +kernel
theorem dX11_item_8 : decode cX11_item 8 = .ok (.invokestatic 296, 3) := by decide +kernel
theorem dX11_item_11 : decode cX11_item 11 = .ok (.ifCond .ne 5, 3) := by decide +kernel
theorem dX11_item_14 : decode cX11_item 14 = .ok (.iconst (-1), 1) := by decide +kernel
theorem dX11_item_15 : decode cX11_item 15 = .ok (.ireturn, 1) := by decide +kernel
theorem dX11_item_16 : decode cX11_item 16 = .ok (.aload_n 0, 1) := by decide +kernel
theorem dX11_item_17 : decode cX11_item 17 = .ok (.getfield 56, 3) := by decide +kernel
theorem dX11_item_20 : decode cX11_item 20 = .ok (.iload_n 1, 1) := by decide +kernel
theorem dX11_item_21 : decode cX11_item 21 = .ok (.aaload, 1) := by decide +kernel
theorem dX11_item_22 : decode cX11_item 22 = .ok (.iload_n 2, 1) := by decide +kernel
theorem dX11_item_23 : decode cX11_item 23 = .ok (.iload_n 3, 1) := by decide +kernel
theorem dX11_item_24 : decode cX11_item 24 = .ok (.iconst 1, 1) := by decide +kernel
theorem dX11_item_25 : decode cX11_item 25 = .ok (.invokevirtual 299, 3) := by decide +kernel
theorem dX11_item_28 : decode cX11_item 28 = .ok (.istore 5, 2) := by decide +kernel
theorem dX11_item_30 : decode cX11_item 30 = .ok (.iload 5, 2) := by decide +kernel
theorem dX11_item_32 : decode cX11_item 32 = .ok (.ifCond .ge 6, 3) := by decide +kernel
theorem dX11_item_35 : decode cX11_item 35 = .ok (.iload 5, 2) := by decide +kernel
theorem dX11_item_37 : decode cX11_item 37 = .ok (.ireturn, 1) := by decide +kernel
theorem dX11_item_38 : decode cX11_item 38 = .ok (.aload_n 0, 1) := by decide +kernel
theorem dX11_item_39 : decode cX11_item 39 = .ok (.getfield 56, 3) := by decide +kernel
theorem dX11_item_42 : decode cX11_item 42 = .ok (.iload_n 1, 1) := by decide +kernel
theorem dX11_item_43 : decode cX11_item 43 = .ok (.aaload, 1) := by decide +kernel
theorem dX11_item_44 : decode cX11_item 44 = .ok (.iload_n 3, 1) := by decide +kernel
theorem dX11_item_45 : decode cX11_item 45 = .ok (.iload 4, 2) := by decide +kernel
theorem dX11_item_47 : decode cX11_item 47 = .ok (.invokevirtual 318, 3) := by decide +kernel
theorem dX11_item_50 : decode cX11_item 50 = .ok (.iconst 1, 1) := by decide +kernel
theorem dX11_item_51 : decode cX11_item 51 = .ok (.ireturn, 1) := by decide +kernel
set_option maxRecDepth 20000 in
theorem ggX11_copy_X11_isSheet : GoodIn wsX11_copy wsX11_isSheet := goodIn_r _ [11, 12, 13, 10, 14] (by decide +kernel) (by decide +kernel)
set_option maxRecDepth 20000 in
theorem gX11_copy_X11_isSheet : GoodIn wsX11_copy (va_wsS RX11 293 yX11_isSheet wsX11_isSheet) := goodIn_app (goodIn_of _ (by decide +kernel)) ggX11_copy_X11_isSheet
set_option maxRecDepth 20000 in
theorem ggX11_copy_X4_isNothing : GoodIn wsX11_copy wsX4_isNothing := goodIn_r _ [19, 20, 35, 36, 37] (by decide +kernel) (by decide +kernel)
set_option maxRecDepth 20000 in
theorem gX11_copy_X4_isNothing : GoodIn wsX11_copy (wsV RX11 310 RX4 yX4_isNothing wsX4_isNothing) := goodIn_app (goodIn_of _ (by decide +kernel)) ggX11_copy_X4_isNothing
set_option maxRecDepth 20000 in
theorem ggX11_copy_X4_holds : GoodIn wsX11_copy wsX4_holds := goodIn_r _ [24, 25, 35, 36, 37] (by decide +kernel) (by decide +kernel)
set_option maxRecDepth 20000 in
theorem gX11_copy_X4_holds : GoodIn wsX11_copy (wsV RX11 324 RX4 yX4_holds wsX4_holds) := goodIn_app (goodIn_of _ (by decide +kernel)) ggX11_copy_X4_holds
theorem dX11_copy_0 : decode cX11_copy 0 = .ok (.iload_n 1, 1) := by decide +kernel
theorem dX11_copy_1 : decode cX11_copy 1 = .ok (.invokestatic 293, 3) := by decide +kernel
theorem dX11_copy_4 : decode cX11_copy 4 = .ok (.ifCond .eq 10, 3) := by decide +kernel
theorem dX11_copy_7 : decode cX11_copy 7 = .ok (.iload_n 3, 1) := by decide +kernel
theorem dX11_copy_8 : decode cX11_copy 8 = .ok (.invokestatic 293, 3) := by decide +kernel
theorem dX11_copy_11 : decode cX11_copy 11 = .ok (.ifCond .ne 5, 3) := by decide +kernel
theorem dX11_copy_14 : decode cX11_copy 14 = .ok (.iconst (-1), 1) := by decide +kernel
theorem dX11_copy_15 : decode cX11_copy 15 = .ok (.ireturn, 1) := by decide +kernel
theorem dX11_copy_16 : decode cX11_copy 16 = .ok (.aload_n 0, 1) := by decide +kernel
theorem dX11_copy_17 : decode cX11_copy 17 = .ok (.getfield 56, 3) := by decide +kernel
theorem dX11_copy_20 : decode cX11_copy 20 = .ok (.iload_n 1, 1) := by decide +kernel
theorem dX11_copy_21 : decode cX11_copy 21 = .ok (.aaload, 1) := by decide +kernel
theorem dX11_copy_22 : decode cX11_copy 22 = .ok (.astore 6, 2) := by decide +kernel
theorem dX11_copy_24 : decode cX11_copy 24 = .ok (.aload_n 0, 1) := by decide +kernel
theorem dX11_copy_25 : decode cX11_copy 25 = .ok (.getfield 56, 3) := by decide +kernel
theorem dX11_copy_28 : decode cX11_copy 28 = .ok (.iload_n 3, 1) := by decide +kernel
theorem dX11_copy_29 : decode cX11_copy 29 = .ok (.aaload, 1) := by decide +kernel
theorem dX11_copy_30 : decode cX11_copy 30 = .ok (.astore 7, 2) := by decide +kernel
theorem dX11_copy_32 : decode cX11_copy 32 = .ok (.aload 6, 2) := by decide +kernel
theorem dX11_copy_34 : decode cX11_copy 34 = .ok (.invokevirtual 310, 3) := by decide +kernel
theorem dX11_copy_37 : decode cX11_copy 37 = .ok (.ifCond .ne 11, 3) := by decide +kernel
theorem dX11_copy_40 : decode cX11_copy 40 = .ok (.aload 7, 2) := by decide +kernel
theorem dX11_copy_42 : decode cX11_copy 42 = .ok (.invokevirtual 310, 3) := by decide +kernel
theorem dX11_copy_45 : decode cX11_copy 45 = .ok (.ifCond .eq 6, 3) := by decide +kernel
theorem dX11_copy_48 : decode cX11_copy 48 = .ok (.bipush (-11), 2) := by decide +kernel
theorem dX11_copy_50 : decode cX11_copy 50 = .ok (.ireturn, 1) := by decide +kernel
theorem dX11_copy_51 : decode cX11_copy 51 = .ok (.aload 6, 2) := by decide +kernel
theorem dX11_copy_53 : decode cX11_copy 53 = .ok (.getfield 321, 3) := by decide +kernel
theorem dX11_copy_56 : decode cX11_copy 56 = .ok (.aload 7, 2) := by decide +kernel
theorem dX11_copy_58 : decode cX11_copy 58 = .ok (.getfield 321, 3) := by decide +kernel
theorem dX11_copy_61 : decode cX11_copy 61 = .ok (.if_icmp .eq 6, 3) := by decide +kernel
theorem dX11_copy_64 : decode cX11_copy 64 = .ok (.bipush (-12), 2) := by decide +kernel
theorem dX11_copy_66 : decode cX11_copy 66 = .ok (.ireturn, 1) := by decide +kernel
theorem dX11_copy_67 : decode cX11_copy 67 = .ok (.aload 6, 2) := by decide +kernel
theorem dX11_copy_69 : decode cX11_copy 69 = .ok (.iload_n 2, 1) := by decide +kernel
theorem dX11_copy_70 : decode cX11_copy 70 = .ok (.iload 5, 2) := by decide +kernel
theorem dX11_copy_72 : decode cX11_copy 72 = .ok (.invokevirtual 324, 3) := by decide +kernel
theorem dX11_copy_75 : decode cX11_copy 75 = .ok (.ifCond .eq 15, 3) := by decide +kernel
theorem dX11_copy_78 : decode cX11_copy 78 = .ok (.aload 7, 2) := by decide +kernel
theorem dX11_copy_80 : decode cX11_copy 80 = .ok (.iload 4, 2) := by decide +kernel
theorem dX11_copy_82 : decode cX11_copy 82 = .ok (.iload 5, 2) := by decide +kernel
theorem dX11_copy_84 : decode cX11_copy 84 = .ok (.invokevirtual 324, 3) := by decide +kernel
theorem dX11_copy_87 : decode cX11_copy 87 = .ok (.ifCond .ne 6, 3) := by decide +kernel
theorem dX11_copy_90 : decode cX11_copy 90 = .ok (.bipush (-13), 2) := by decide +kernel
theorem dX11_copy_92 : decode cX11_copy 92 = .ok (.ireturn, 1) := by decide +kernel
theorem dX11_copy_93 : decode cX11_copy 93 = .ok (.aload 6, 2) := by decide +kernel
theorem dX11_copy_95 : decode cX11_copy 95 = .ok (.getfield 327, 3) := by decide +kernel
theorem dX11_copy_98 : decode cX11_copy 98 = .ok (.iload_n 2, 1) := by decide +kernel
theorem dX11_copy_99 : decode cX11_copy 99 = .ok (.aload 7, 2) := by decide +kernel
theorem dX11_copy_101 : decode cX11_copy 101 = .ok (.getfield 327, 3) := by decide +kernel
theorem dX11_copy_104 : decode cX11_copy 104 = .ok (.iload 4, 2) := by decide +kernel
theorem dX11_copy_106 : decode cX11_copy 106 = .ok (.iload 5, 2) := by decide +kernel
theorem dX11_copy_108 : decode cX11_copy 108 = .ok (.invokestatic 330, 3) := by decide +kernel
theorem dX11_copy_111 : decode cX11_copy 111 = .ok (.iload 5, 2) := by decide +kernel
theorem dX11_copy_113 : decode cX11_copy 113 = .ok (.ireturn, 1) := by decide +kernel
theorem dX11_isWithin_0 : decode cX11_isWithin 0 = .ok (.iload_n 0, 1) := by decide +kernel
theorem dX11_isWithin_1 : decode cX11_isWithin 1 = .ok (.iload_n 1, 1) := by decide +kernel
theorem dX11_isWithin_2 : decode cX11_isWithin 2 = .ok (.if_icmp .lt 12, 3) := by decide +kernel
theorem dX11_isWithin_5 : decode cX11_isWithin 5 = .ok (.iload_n 0, 1) := by decide +kernel
theorem dX11_isWithin_6 : decode cX11_isWithin 6 = .ok (.iload_n 2, 1) := by decide +kernel
theorem dX11_isWithin_7 : decode cX11_isWithin 7 = .ok (.if_icmp .gt 7, 3) := by decide +kernel
theorem dX11_isWithin_10 : decode cX11_isWithin 10 = .ok (.iconst 1, 1) := by decide +kernel
theorem dX11_isWithin_11 : decode cX11_isWithin 11 = .ok (.goto 4, 3) := by decide +kernel
theorem dX11_isWithin_14 : decode cX11_isWithin 14 = .ok (.iconst 0, 1) := by decide +kernel
theorem dX11_isWithin_15 : decode cX11_isWithin 15 = .ok (.ireturn, 1) := by decide +kernel
set_option maxRecDepth 20000 in
theorem ggX11_isFoot_X11_isWithin : GoodIn wsX11_isFoot wsX11_isWithin := goodIn_r _ [4] (by decide +kernel) (by decide +kernel)
set_option maxRecDepth 20000 in
theorem gX11_isFoot_X11_isWithin : GoodIn wsX11_isFoot (va_wsS RX11 61 yX11_isWithin wsX11_isWithin) := goodIn_app (goodIn_of _ (by decide +kernel)) ggX11_isFoot_X11_isWithin
theorem dX11_isFoot_0 : decode cX11_isFoot 0 = .ok (.iload_n 0, 1) := by decide +kernel
theorem dX11_isFoot_1 : decode cX11_isFoot 1 = .ok (.iconst 0, 1) := by decide +kernel
theorem dX11_isFoot_2 : decode cX11_isFoot 2 = .ok (.iconst 1, 1) := by decide +kernel
theorem dX11_isFoot_3 : decode cX11_isFoot 3 = .ok (.invokestatic 61, 3) := by decide +kernel
theorem dX11_isFoot_6 : decode cX11_isFoot 6 = .ok (.ireturn, 1) := by decide +kernel
set_option maxRecDepth 20000 in
theorem ggX11_isSort_X11_isWithin : GoodIn wsX11_isSort wsX11_isWithin := goodIn_r _ [4] (by decide +kernel) (by decide +kernel)
set_option maxRecDepth 20000 in
theorem gX11_isSort_X11_isWithin : GoodIn wsX11_isSort (va_wsS RX11 61 yX11_isWithin wsX11_isWithin) := goodIn_app (goodIn_of _ (by decide +kernel)) ggX11_isSort_X11_isWithin
theorem dX11_isSort_0 : decode cX11_isSort 0 = .ok (.iload_n 0, 1) := by decide +kernel
