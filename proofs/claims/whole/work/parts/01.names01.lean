theorem dX0_init_0 : decode cX0_init 0 = .ok (.aload_n 0, 1) := by decide +kernel
theorem dX0_init_1 : decode cX0_init 1 = .ok (.invokespecial 5, 3) := by decide +kernel
theorem dX0_init_4 : decode cX0_init 4 = .ok (.aload_n 0, 1) := by decide +kernel
theorem dX0_init_5 : decode cX0_init 5 = .ok (.sipush 10935, 3) := by decide +kernel
theorem dX0_init_8 : decode cX0_init 8 = .ok (.newarray .int, 2) := by decide +kernel
theorem dX0_init_10 : decode cX0_init 10 = .ok (.putfield 13, 3) := by decide +kernel
theorem dX0_init_13 : decode cX0_init 13 = .ok (.aload_n 0, 1) := by decide +kernel
theorem dX0_init_14 : decode cX0_init 14 = .ok (.sipush 10935, 3) := by decide +kernel
theorem dX0_init_17 : decode cX0_init 17 = .ok (.newarray .int, 2) := by decide +kernel
theorem dX0_init_19 : decode cX0_init 19 = .ok (.putfield 17, 3) := by decide +kernel
theorem dX0_init_22 : decode cX0_init 22 = .ok (.aload_n 0, 1) := by decide +kernel
theorem dX0_init_23 : decode cX0_init 23 = .ok (.sipush 10935, 3) := by decide +kernel
theorem dX0_init_26 : decode cX0_init 26 = .ok (.newarray .int, 2) := by decide +kernel
theorem dX0_init_28 : decode cX0_init 28 = .ok (.putfield 20, 3) := by decide +kernel
theorem dX0_init_31 : decode cX0_init 31 = .ok (.return_, 1) := by decide +kernel
theorem dX0_forget_0 : decode cX0_forget 0 = .ok (.aload_n 0, 1) := by decide +kernel
theorem dX0_forget_1 : decode cX0_forget 1 = .ok (.dup, 1) := by decide +kernel
theorem dX0_forget_2 : decode cX0_forget 2 = .ok (.getfield 23, 3) := by decide +kernel
theorem dX0_forget_5 : decode cX0_forget 5 = .ok (.iconst 1, 1) := by decide +kernel
theorem dX0_forget_6 : decode cX0_forget 6 = .ok (.iadd, 1) := by decide +kernel
theorem dX0_forget_7 : decode cX0_forget 7 = .ok (.putfield 23, 3) := by decide +kernel
theorem dX0_forget_10 : decode cX0_forget 10 = .ok (.return_, 1) := by decide +kernel
set_option maxRecDepth 20000 in
theorem ggX0_betters_X11_isWithin : GoodIn wsX0_betters wsX11_isWithin := goodIn_r _ [7] (by decide +kernel) (by decide +kernel)
set_option maxRecDepth 20000 in
theorem gX0_betters_X11_isWithin_n27 : GoodIn wsX0_betters (wsX11_isWithin) := ggX0_betters_X11_isWithin
theorem dX0_betters_0 : decode cX0_betters 0 = .ok (.iload_n 1, 1) := by decide +kernel
theorem dX0_betters_1 : decode cX0_betters 1 = .ok (.iconst 0, 1) := by decide +kernel
theorem dX0_betters_2 : decode cX0_betters 2 = .ok (.sipush 10934, 3) := by decide +kernel
theorem dX0_betters_5 : decode cX0_betters 5 = .ok (.invokestatic 27, 3) := by decide +kernel
theorem dX0_betters_8 : decode cX0_betters 8 = .ok (.ifCond .ne 5, 3) := by decide +kernel
theorem dX0_betters_11 : decode cX0_betters 11 = .ok (.iconst 1, 1) := by decide +kernel
theorem dX0_betters_12 : decode cX0_betters 12 = .ok (.ireturn, 1) := by decide +kernel
theorem dX0_betters_13 : decode cX0_betters 13 = .ok (.aload_n 0, 1) := by decide +kernel
theorem dX0_betters_14 : decode cX0_betters 14 = .ok (.getfield 20, 3) := by decide +kernel
theorem dX0_betters_17 : decode cX0_betters 17 = .ok (.iload_n 1, 1) := by decide +kernel
theorem dX0_betters_18 : decode cX0_betters 18 = .ok (.iaload, 1) := by decide +kernel
theorem dX0_betters_19 : decode cX0_betters 19 = .ok (.aload_n 0, 1) := by decide +kernel
theorem dX0_betters_20 : decode cX0_betters 20 = .ok (.getfield 23, 3) := by decide +kernel
theorem dX0_betters_23 : decode cX0_betters 23 = .ok (.if_icmp .ne 25, 3) := by decide +kernel
theorem dX0_betters_26 : decode cX0_betters 26 = .ok (.aload_n 0, 1) := by decide +kernel
theorem dX0_betters_27 : decode cX0_betters 27 = .ok (.getfield 13, 3) := by decide +kernel
theorem dX0_betters_30 : decode cX0_betters 30 = .ok (.iload_n 1, 1) := by decide +kernel
theorem dX0_betters_31 : decode cX0_betters 31 = .ok (.iaload, 1) := by decide +kernel
theorem dX0_betters_32 : decode cX0_betters 32 = .ok (.iload_n 2, 1) := by decide +kernel
theorem dX0_betters_33 : decode cX0_betters 33 = .ok (.if_icmp .gt 15, 3) := by decide +kernel
theorem dX0_betters_36 : decode cX0_betters 36 = .ok (.aload_n 0, 1) := by decide +kernel
theorem dX0_betters_37 : decode cX0_betters 37 = .ok (.getfield 17, 3) := by decide +kernel
theorem dX0_betters_40 : decode cX0_betters 40 = .ok (.iload_n 1, 1) := by decide +kernel
theorem dX0_betters_41 : decode cX0_betters 41 = .ok (.iaload, 1) := by decide +kernel
theorem dX0_betters_42 : decode cX0_betters 42 = .ok (.iload_n 3, 1) := by decide +kernel
theorem dX0_betters_43 : decode cX0_betters 43 = .ok (.if_icmp .gt 5, 3) := by decide +kernel
theorem dX0_betters_46 : decode cX0_betters 46 = .ok (.iconst 0, 1) := by decide +kernel
theorem dX0_betters_47 : decode cX0_betters 47 = .ok (.ireturn, 1) := by decide +kernel
theorem dX0_betters_48 : decode cX0_betters 48 = .ok (.aload_n 0, 1) := by decide +kernel
theorem dX0_betters_49 : decode cX0_betters 49 = .ok (.getfield 20, 3) := by decide +kernel
theorem dX0_betters_52 : decode cX0_betters 52 = .ok (.iload_n 1, 1) := by decide +kernel
theorem dX0_betters_53 : decode cX0_betters 53 = .ok (.aload_n 0, 1) := by decide +kernel
theorem dX0_betters_54 : decode cX0_betters 54 = .ok (.getfield 23, 3) := by decide +kernel
theorem dX0_betters_57 : decode cX0_betters 57 = .ok (.iastore, 1) := by decide +kernel
theorem dX0_betters_58 : decode cX0_betters 58 = .ok (.aload_n 0, 1) := by decide +kernel
theorem dX0_betters_59 : decode cX0_betters 59 = .ok (.getfield 13, 3) := by decide +kernel
theorem dX0_betters_62 : decode cX0_betters 62 = .ok (.iload_n 1, 1) := by decide +kernel
theorem dX0_betters_63 : decode cX0_betters 63 = .ok (.iload_n 2, 1) := by decide +kernel
theorem dX0_betters_64 : decode cX0_betters 64 = .ok (.iastore, 1) := by decide +kernel
theorem dX0_betters_65 : decode cX0_betters 65 = .ok (.aload_n 0, 1) := by decide +kernel
theorem dX0_betters_66 : decode cX0_betters 66 = .ok (.getfield 17, 3) := by decide +kernel
theorem dX0_betters_69 : decode cX0_betters 69 = .ok (.iload_n 1, 1) := by decide +kernel
theorem dX0_betters_70 : decode cX0_betters 70 = .ok (.iload_n 3, 1) := by decide +kernel
theorem dX0_betters_71 : decode cX0_betters 71 = .ok (.iastore, 1) := by decide +kernel
theorem dX0_betters_72 : decode cX0_betters 72 = .ok (.iconst 1, 1) := by decide +kernel
theorem dX0_betters_73 : decode cX0_betters 73 = .ok (.ireturn, 1) := by decide +kernel
theorem dX1_init_0 : decode cX1_init 0 = .ok (.aload_n 0, 1) := by decide +kernel
theorem dX1_init_1 : decode cX1_init 1 = .ok (.invokespecial 3, 3) := by decide +kernel
theorem dX1_init_4 : decode cX1_init 4 = .ok (.aload_n 0, 1) := by decide +kernel
theorem dX1_init_5 : decode cX1_init 5 = .ok (.bipush 6, 2) := by decide +kernel
theorem dX1_init_7 : decode cX1_init 7 = .ok (.newarray .int, 2) := by decide +kernel
theorem dX1_init_9 : decode cX1_init 9 = .ok (.putfield 9, 3) := by decide +kernel
theorem dX1_init_12 : decode cX1_init 12 = .ok (.aload_n 0, 1) := by decide +kernel
theorem dX1_init_13 : decode cX1_init 13 = .ok (.bipush 6, 2) := by decide +kernel
theorem dX1_init_15 : decode cX1_init 15 = .ok (.newarray .int, 2) := by decide +kernel
theorem dX1_init_17 : decode cX1_init 17 = .ok (.putfield 15, 3) := by decide +kernel
theorem dX1_init_20 : decode cX1_init 20 = .ok (.aload_n 0, 1) := by decide +kernel
theorem dX1_init_21 : decode cX1_init 21 = .ok (.bipush 100, 2) := by decide +kernel
theorem dX1_init_23 : decode cX1_init 23 = .ok (.newarray .int, 2) := by decide +kernel
theorem dX1_init_25 : decode cX1_init 25 = .ok (.putfield 18, 3) := by decide +kernel
theorem dX1_init_28 : decode cX1_init 28 = .ok (.return_, 1) := by decide +kernel
theorem dX1_add_0 : decode cX1_add 0 = .ok (.aload_n 0, 1) := by decide +kernel
theorem dX1_add_1 : decode cX1_add 1 = .ok (.getfield 21, 3) := by decide +kernel
theorem dX1_add_4 : decode cX1_add 4 = .ok (.bipush 6, 2) := by decide +kernel
theorem dX1_add_6 : decode cX1_add 6 = .ok (.if_icmp .lt 6, 3) := by decide +kernel
theorem dX1_add_9 : decode cX1_add 9 = .ok (.bipush (-3), 2) := by decide +kernel
theorem dX1_add_11 : decode cX1_add 11 = .ok (.ireturn, 1) := by decide +kernel
theorem dX1_add_12 : decode cX1_add 12 = .ok (.aload_n 0, 1) := by decide +kernel
theorem dX1_add_13 : decode cX1_add 13 = .ok (.getfield 9, 3) := by decide +kernel
theorem dX1_add_16 : decode cX1_add 16 = .ok (.aload_n 0, 1) := by decide +kernel
theorem dX1_add_17 : decode cX1_add 17 = .ok (.getfield 21, 3) := by decide +kernel
theorem dX1_add_20 : decode cX1_add 20 = .ok (.iload_n 1, 1) := by decide +kernel
theorem dX1_add_21 : decode cX1_add 21 = .ok (.iastore, 1) := by decide +kernel
theorem dX1_add_22 : decode cX1_add 22 = .ok (.aload_n 0, 1) := by decide +kernel
theorem dX1_add_23 : decode cX1_add 23 = .ok (.getfield 15, 3) := by decide +kernel
theorem dX1_add_26 : decode cX1_add 26 = .ok (.aload_n 0, 1) := by decide +kernel
theorem dX1_add_27 : decode cX1_add 27 = .ok (.getfield 21, 3) := by decide +kernel
theorem dX1_add_30 : decode cX1_add 30 = .ok (.iload_n 2, 1) := by decide +kernel
theorem dX1_add_31 : decode cX1_add 31 = .ok (.iastore, 1) := by decide +kernel
theorem dX1_add_32 : decode cX1_add 32 = .ok (.aload_n 0, 1) := by decide +kernel
theorem dX1_add_33 : decode cX1_add 33 = .ok (.dup, 1) := by decide +kernel
theorem dX1_add_34 : decode cX1_add 34 = .ok (.getfield 21, 3) := by decide +kernel
theorem dX1_add_37 : decode cX1_add 37 = .ok (.iconst 1, 1) := by decide +kernel
theorem dX1_add_38 : decode cX1_add 38 = .ok (.iadd, 1) := by decide +kernel
theorem dX1_add_39 : decode cX1_add 39 = .ok (.putfield 21, 3) := by decide +kernel
theorem dX1_add_42 : decode cX1_add 42 = .ok (.aload_n 0, 1) := by decide +kernel
theorem dX1_add_43 : decode cX1_add 43 = .ok (.getfield 21, 3) := by decide +kernel
theorem dX1_add_46 : decode cX1_add 46 = .ok (.iconst 1, 1) := by decide +kernel
theorem dX1_add_47 : decode cX1_add 47 = .ok (.isub, 1) := by decide +kernel
theorem dX1_add_48 : decode cX1_add 48 = .ok (.ireturn, 1) := by decide +kernel
theorem dX1_wantedAt_0 : decode cX1_wantedAt 0 = .ok (.iconst 0, 1) := by decide +kernel
theorem dX1_wantedAt_1 : decode cX1_wantedAt 1 = .ok (.istore_n 2, 1) := by decide +kernel
theorem dX1_wantedAt_2 : decode cX1_wantedAt 2 = .ok (.iconst 0, 1) := by decide +kernel
theorem dX1_wantedAt_3 : decode cX1_wantedAt 3 = .ok (.istore_n 3, 1) := by decide +kernel
theorem dX1_wantedAt_4 : decode cX1_wantedAt 4 = .ok (.iload_n 3, 1) := by decide +kernel
theorem dX1_wantedAt_5 : decode cX1_wantedAt 5 = .ok (.aload_n 0, 1) := by decide +kernel
theorem dX1_wantedAt_6 : decode cX1_wantedAt 6 = .ok (.getfield 21, 3) := by decide +kernel
theorem dX1_wantedAt_9 : decode cX1_wantedAt 9 = .ok (.if_icmp .ge 28, 3) := by decide +kernel
theorem dX1_wantedAt_12 : decode cX1_wantedAt 12 = .ok (.iload_n 1, 1) := by decide +kernel
theorem dX1_wantedAt_13 : decode cX1_wantedAt 13 = .ok (.aload_n 0, 1) := by decide +kernel
theorem dX1_wantedAt_14 : decode cX1_wantedAt 14 = .ok (.getfield 15, 3) := by decide +kernel
theorem dX1_wantedAt_17 : decode cX1_wantedAt 17 = .ok (.iload_n 3, 1) := by decide +kernel
theorem dX1_wantedAt_18 : decode cX1_wantedAt 18 = .ok (.iaload, 1) := by decide +kernel
theorem dX1_wantedAt_19 : decode cX1_wantedAt 19 = .ok (.if_icmp .gt 12, 3) := by decide +kernel
theorem dX1_wantedAt_22 : decode cX1_wantedAt 22 = .ok (.iload_n 2, 1) := by decide +kernel
theorem dX1_wantedAt_23 : decode cX1_wantedAt 23 = .ok (.aload_n 0, 1) := by decide +kernel
theorem dX1_wantedAt_24 : decode cX1_wantedAt 24 = .ok (.getfield 9, 3) := by decide +kernel
theorem dX1_wantedAt_27 : decode cX1_wantedAt 27 = .ok (.iload_n 3, 1) := by decide +kernel
theorem dX1_wantedAt_28 : decode cX1_wantedAt 28 = .ok (.iaload, 1) := by decide +kernel
theorem dX1_wantedAt_29 : decode cX1_wantedAt 29 = .ok (.iadd, 1) := by decide +kernel
theorem dX1_wantedAt_30 : decode cX1_wantedAt 30 = .ok (.istore_n 2, 1) := by decide +kernel
theorem dX1_wantedAt_31 : decode cX1_wantedAt 31 = .ok (.iinc 3 1, 3) := by decide +kernel
theorem dX1_wantedAt_34 : decode cX1_wantedAt 34 = .ok (.goto (-30), 3) := by decide +kernel
theorem dX1_wantedAt_37 : decode cX1_wantedAt 37 = .ok (.iload_n 2, 1) := by decide +kernel
theorem dX1_wantedAt_38 : decode cX1_wantedAt 38 = .ok (.ireturn, 1) := by decide +kernel
set_option maxRecDepth 20000 in
theorem ggX1_settle_J7_fill_53178 : GoodIn wsX1_settle wsJ7_fill_53178 := goodIn_r _ [14] (by decide +kernel) (by decide +kernel)
set_option maxRecDepth 20000 in
theorem gX1_settle_J7_fill_53178 : GoodIn wsX1_settle (va_wsS RX1 25 yJ7_fill_53178 wsJ7_fill_53178) := goodIn_app (goodIn_of _ (by decide +kernel)) ggX1_settle_J7_fill_53178
set_option maxRecDepth 20000 in
theorem ggX1_settle_X1_wantedAt : GoodIn wsX1_settle wsX1_wantedAt := goodIn_r _ [19, 20, 21, 22, 23, 24, 25, 26, 27, 28] (by decide +kernel) (by decide +kernel)
set_option maxRecDepth 20000 in
theorem gX1_settle_X1_wantedAt : GoodIn wsX1_settle (wsV RX1 37 RX1 yX1_wantedAt wsX1_wantedAt) := goodIn_app (goodIn_of _ (by decide +kernel)) ggX1_settle_X1_wantedAt
theorem dX1_settle_0 : decode cX1_settle 0 = .ok (.aload_n 0, 1) := by decide +kernel
theorem dX1_settle_1 : decode cX1_settle 1 = .ok (.getfield 18, 3) := by decide +kernel
theorem dX1_settle_4 : decode cX1_settle 4 = .ok (.iconst 0, 1) := by decide +kernel
theorem dX1_settle_5 : decode cX1_settle 5 = .ok (.invokestatic 25, 3) := by decide +kernel
theorem dX1_settle_8 : decode cX1_settle 8 = .ok (.aload_n 0, 1) := by decide +kernel
theorem dX1_settle_9 : decode cX1_settle 9 = .ok (.iload_n 1, 1) := by decide +kernel
theorem dX1_settle_10 : decode cX1_settle 10 = .ok (.putfield 31, 3) := by decide +kernel
theorem dX1_settle_13 : decode cX1_settle 13 = .ok (.aload_n 0, 1) := by decide +kernel
theorem dX1_settle_14 : decode cX1_settle 14 = .ok (.iconst 0, 1) := by decide +kernel
theorem dX1_settle_15 : decode cX1_settle 15 = .ok (.putfield 34, 3) := by decide +kernel
theorem dX1_settle_18 : decode cX1_settle 18 = .ok (.aload_n 0, 1) := by decide +kernel
theorem dX1_settle_19 : decode cX1_settle 19 = .ok (.getfield 34, 3) := by decide +kernel
theorem dX1_settle_22 : decode cX1_settle 22 = .ok (.bipush 99, 2) := by decide +kernel
theorem dX1_settle_24 : decode cX1_settle 24 = .ok (.if_icmp .gt 90, 3) := by decide +kernel
theorem dX1_settle_27 : decode cX1_settle 27 = .ok (.aload_n 0, 1) := by decide +kernel
theorem dX1_settle_28 : decode cX1_settle 28 = .ok (.aload_n 0, 1) := by decide +kernel
theorem dX1_settle_29 : decode cX1_settle 29 = .ok (.getfield 31, 3) := by decide +kernel
theorem dX1_settle_32 : decode cX1_settle 32 = .ok (.invokevirtual 37, 3) := by decide +kernel
theorem dX1_settle_35 : decode cX1_settle 35 = .ok (.istore_n 3, 1) := by decide +kernel
theorem dX1_settle_36 : decode cX1_settle 36 = .ok (.aload_n 0, 1) := by decide +kernel
theorem dX1_settle_37 : decode cX1_settle 37 = .ok (.getfield 18, 3) := by decide +kernel
theorem dX1_settle_40 : decode cX1_settle 40 = .ok (.aload_n 0, 1) := by decide +kernel
theorem dX1_settle_41 : decode cX1_settle 41 = .ok (.getfield 31, 3) := by decide +kernel
theorem dX1_settle_44 : decode cX1_settle 44 = .ok (.iaload, 1) := by decide +kernel
theorem dX1_settle_45 : decode cX1_settle 45 = .ok (.iconst 1, 1) := by decide +kernel
theorem dX1_settle_46 : decode cX1_settle 46 = .ok (.if_icmp .ne 5, 3) := by decide +kernel
theorem dX1_settle_49 : decode cX1_settle 49 = .ok (.iconst 0, 1) := by decide +kernel
theorem dX1_settle_50 : decode cX1_settle 50 = .ok (.ireturn, 1) := by decide +kernel
theorem dX1_settle_51 : decode cX1_settle 51 = .ok (.iload_n 3, 1) := by decide +kernel
theorem dX1_settle_52 : decode cX1_settle 52 = .ok (.iload_n 2, 1) := by decide +kernel
theorem dX1_settle_53 : decode cX1_settle 53 = .ok (.if_icmp .ne 5, 3) := by decide +kernel
theorem dX1_settle_56 : decode cX1_settle 56 = .ok (.iconst 1, 1) := by decide +kernel
theorem dX1_settle_57 : decode cX1_settle 57 = .ok (.ireturn, 1) := by decide +kernel
theorem dX1_settle_58 : decode cX1_settle 58 = .ok (.aload_n 0, 1) := by decide +kernel
theorem dX1_settle_59 : decode cX1_settle 59 = .ok (.getfield 18, 3) := by decide +kernel
theorem dX1_settle_62 : decode cX1_settle 62 = .ok (.aload_n 0, 1) := by decide +kernel
theorem dX1_settle_63 : decode cX1_settle 63 = .ok (.getfield 31, 3) := by decide +kernel
theorem dX1_settle_66 : decode cX1_settle 66 = .ok (.iconst 1, 1) := by decide +kernel
theorem dX1_settle_67 : decode cX1_settle 67 = .ok (.iastore, 1) := by decide +kernel
theorem dX1_settle_68 : decode cX1_settle 68 = .ok (.aload_n 0, 1) := by decide +kernel
theorem dX1_settle_69 : decode cX1_settle 69 = .ok (.iload_n 3, 1) := by decide +kernel
theorem dX1_settle_70 : decode cX1_settle 70 = .ok (.iload_n 2, 1) := by decide +kernel
theorem dX1_settle_71 : decode cX1_settle 71 = .ok (.if_icmp .le 17, 3) := by decide +kernel
theorem dX1_settle_74 : decode cX1_settle 74 = .ok (.aload_n 0, 1) := by decide +kernel
theorem dX1_settle_75 : decode cX1_settle 75 = .ok (.getfield 31, 3) := by decide +kernel
theorem dX1_settle_78 : decode cX1_settle 78 = .ok (.iconst 1, 1) := by decide +kernel
theorem dX1_settle_79 : decode cX1_settle 79 = .ok (.iadd, 1) := by decide +kernel
theorem dX1_settle_80 : decode cX1_settle 80 = .ok (.bipush 99, 2) := by decide +kernel
theorem dX1_settle_82 : decode cX1_settle 82 = .ok (.invokestatic 41, 3) := by decide +kernel
theorem dX1_settle_85 : decode cX1_settle 85 = .ok (.goto 13, 3) := by decide +kernel
theorem dX1_settle_88 : decode cX1_settle 88 = .ok (.aload_n 0, 1) := by decide +kernel
theorem dX1_settle_89 : decode cX1_settle 89 = .ok (.getfield 31, 3) := by decide +kernel
theorem dX1_settle_92 : decode cX1_settle 92 = .ok (.iconst 1, 1) := by decide +kernel
theorem dX1_settle_93 : decode cX1_settle 93 = .ok (.isub, 1) := by decide +kernel
theorem dX1_settle_94 : decode cX1_settle 94 = .ok (.iconst 1, 1) := by decide +kernel
theorem dX1_settle_95 : decode cX1_settle 95 = .ok (.invokestatic 47, 3) := by decide +kernel
theorem dX1_settle_98 : decode cX1_settle 98 = .ok (.putfield 31, 3) := by decide +kernel
theorem dX1_settle_101 : decode cX1_settle 101 = .ok (.aload_n 0, 1) := by decide +kernel
theorem dX1_settle_102 : decode cX1_settle 102 = .ok (.dup, 1) := by decide +kernel
theorem dX1_settle_103 : decode cX1_settle 103 = .ok (.getfield 34, 3) := by decide +kernel
theorem dX1_settle_106 : decode cX1_settle 106 = .ok (.iconst 1, 1) := by decide +kernel
theorem dX1_settle_107 : decode cX1_settle 107 = .ok (.iadd, 1) := by decide +kernel
theorem dX1_settle_108 : decode cX1_settle 108 = .ok (.putfield 34, 3) := by decide +kernel
theorem dX1_settle_111 : decode cX1_settle 111 = .ok (.goto (-93), 3) := by decide +kernel
theorem dX1_settle_114 : decode cX1_settle 114 = .ok (.iconst 0, 1) := by decide +kernel
theorem dX1_settle_115 : decode cX1_settle 115 = .ok (.ireturn, 1) := by decide +kernel
theorem dX1_become_0 : decode cX1_become 0 = .ok (.aload_n 1, 1) := by decide +kernel
theorem dX1_become_1 : decode cX1_become 1 = .ok (.getfield 9, 3) := by decide +kernel
theorem dX1_become_4 : decode cX1_become 4 = .ok (.iconst 0, 1) := by decide +kernel
theorem dX1_become_5 : decode cX1_become 5 = .ok (.aload_n 0, 1) := by decide +kernel
theorem dX1_become_6 : decode cX1_become 6 = .ok (.getfield 9, 3) := by decide +kernel
theorem dX1_become_9 : decode cX1_become 9 = .ok (.iconst 0, 1) := by decide +kernel
theorem dX1_become_10 : decode cX1_become 10 = .ok (.bipush 6, 2) := by decide +kernel
theorem dX1_become_12 : decode cX1_become 12 = .ok (.invokestatic 50, 3) := by decide +kernel
theorem dX1_become_15 : decode cX1_become 15 = .ok (.aload_n 1, 1) := by decide +kernel
theorem dX1_become_16 : decode cX1_become 16 = .ok (.getfield 15, 3) := by decide +kernel
theorem dX1_become_19 : decode cX1_become 19 = .ok (.iconst 0, 1) := by decide +kernel
theorem dX1_become_20 : decode cX1_become 20 = .ok (.aload_n 0, 1) := by decide +kernel
theorem dX1_become_21 : decode cX1_become 21 = .ok (.getfield 15, 3) := by decide +kernel
theorem dX1_become_24 : decode cX1_become 24 = .ok (.iconst 0, 1) := by decide +kernel
theorem dX1_become_25 : decode cX1_become 25 = .ok (.bipush 6, 2) := by decide +kernel
theorem dX1_become_27 : decode cX1_become 27 = .ok (.invokestatic 50, 3) := by decide +kernel
theorem dX1_become_30 : decode cX1_become 30 = .ok (.aload_n 0, 1) := by decide +kernel
theorem dX1_become_31 : decode cX1_become 31 = .ok (.aload_n 1, 1) := by decide +kernel
theorem dX1_become_32 : decode cX1_become 32 = .ok (.getfield 21, 3) := by decide +kernel
theorem dX1_become_35 : decode cX1_become 35 = .ok (.putfield 21, 3) := by decide +kernel
theorem dX1_become_38 : decode cX1_become 38 = .ok (.return_, 1) := by decide +kernel
set_option maxRecDepth 20000 in
theorem ggX2_init_J7_fill_53178 : GoodIn wsX2_init wsJ7_fill_53178 := goodIn_r _ [12] (by decide +kernel) (by decide +kernel)
set_option maxRecDepth 20000 in
theorem gX2_init_J7_fill_53178 : GoodIn wsX2_init (va_wsS RX2 23 yJ7_fill_53178 wsJ7_fill_53178) := goodIn_app (goodIn_of _ (by decide +kernel)) ggX2_init_J7_fill_53178
theorem dX2_init_0 : decode cX2_init 0 = .ok (.aload_n 0, 1) := by decide +kernel
theorem dX2_init_1 : decode cX2_init 1 = .ok (.invokespecial 3, 3) := by decide +kernel
theorem dX2_init_4 : decode cX2_init 4 = .ok (.aload_n 0, 1) := by decide +kernel
theorem dX2_init_5 : decode cX2_init 5 = .ok (.bipush 8, 2) := by decide +kernel
theorem dX2_init_7 : decode cX2_init 7 = .ok (.bipush 8, 2) := by decide +kernel
theorem dX2_init_9 : decode cX2_init 9 = .ok (.multianewarray 9 2, 4) := by decide +kernel
theorem dX2_init_13 : decode cX2_init 13 = .ok (.putfield 11, 3) := by decide +kernel
theorem dX2_init_16 : decode cX2_init 16 = .ok (.aload_n 0, 1) := by decide +kernel
theorem dX2_init_17 : decode cX2_init 17 = .ok (.bipush 8, 2) := by decide +kernel
theorem dX2_init_19 : decode cX2_init 19 = .ok (.newarray .int, 2) := by decide +kernel
theorem dX2_init_21 : decode cX2_init 21 = .ok (.putfield 16, 3) := by decide +kernel
theorem dX2_init_24 : decode cX2_init 24 = .ok (.aload_n 0, 1) := by decide +kernel
theorem dX2_init_25 : decode cX2_init 25 = .ok (.bipush 8, 2) := by decide +kernel
theorem dX2_init_27 : decode cX2_init 27 = .ok (.newarray .int, 2) := by decide +kernel
theorem dX2_init_29 : decode cX2_init 29 = .ok (.putfield 20, 3) := by decide +kernel
theorem dX2_init_32 : decode cX2_init 32 = .ok (.iconst 0, 1) := by decide +kernel
theorem dX2_init_33 : decode cX2_init 33 = .ok (.istore_n 1, 1) := by decide +kernel
theorem dX2_init_34 : decode cX2_init 34 = .ok (.iload_n 1, 1) := by decide +kernel
theorem dX2_init_35 : decode cX2_init 35 = .ok (.bipush 8, 2) := by decide +kernel
theorem dX2_init_37 : decode cX2_init 37 = .ok (.if_icmp .ge 19, 3) := by decide +kernel
theorem dX2_init_40 : decode cX2_init 40 = .ok (.aload_n 0, 1) := by decide +kernel
theorem dX2_init_41 : decode cX2_init 41 = .ok (.getfield 11, 3) := by decide +kernel
theorem dX2_init_44 : decode cX2_init 44 = .ok (.iload_n 1, 1) := by decide +kernel
theorem dX2_init_45 : decode cX2_init 45 = .ok (.aaload, 1) := by decide +kernel
theorem dX2_init_46 : decode cX2_init 46 = .ok (.iconst (-1), 1) := by decide +kernel
theorem dX2_init_47 : decode cX2_init 47 = .ok (.invokestatic 23, 3) := by decide +kernel
theorem dX2_init_50 : decode cX2_init 50 = .ok (.iinc 1 1, 3) := by decide +kernel
theorem dX2_init_53 : decode cX2_init 53 = .ok (.goto (-19), 3) := by decide +kernel
theorem dX2_init_56 : decode cX2_init 56 = .ok (.return_, 1) := by decide +kernel
theorem dX2_between_0 : decode cX2_between 0 = .ok (.aload_n 0, 1) := by decide +kernel
theorem dX2_between_1 : decode cX2_between 1 = .ok (.getfield 11, 3) := by decide +kernel
theorem dX2_between_4 : decode cX2_between 4 = .ok (.iload_n 1, 1) := by decide +kernel
theorem dX2_between_5 : decode cX2_between 5 = .ok (.iload_n 2, 1) := by decide +kernel
theorem dX2_between_6 : decode cX2_between 6 = .ok (.invokestatic 29, 3) := by decide +kernel
theorem dX2_between_9 : decode cX2_between 9 = .ok (.aaload, 1) := by decide +kernel
theorem dX2_between_10 : decode cX2_between 10 = .ok (.iload_n 1, 1) := by decide +kernel
theorem dX2_between_11 : decode cX2_between 11 = .ok (.iload_n 2, 1) := by decide +kernel
theorem dX2_between_12 : decode cX2_between 12 = .ok (.invokestatic 35, 3) := by decide +kernel
theorem dX2_between_15 : decode cX2_between 15 = .ok (.iaload, 1) := by decide +kernel
theorem dX2_between_16 : decode cX2_between 16 = .ok (.ireturn, 1) := by decide +kernel
set_option maxRecDepth 20000 in
theorem ggX2_join_X2_between : GoodIn wsX2_join wsX2_between := goodIn_r _ [13, 1, 2, 3, 4, 5, 6, 7, 8, 14, 15, 16, 17, 18] (by decide +kernel) (by decide +kernel)
set_option maxRecDepth 20000 in
theorem gX2_join_X2_between : GoodIn wsX2_join (wsV RX2 38 RX2 yX2_between wsX2_between) := goodIn_app (goodIn_of _ (by decide +kernel)) ggX2_join_X2_between
theorem dX2_join_0 : decode cX2_join 0 = .ok (.aload_n 0, 1) := by decide +kernel
theorem dX2_join_1 : decode cX2_join 1 = .ok (.iload_n 1, 1) := by decide +kernel
theorem dX2_join_2 : decode cX2_join 2 = .ok (.iload_n 2, 1) := by decide +kernel
theorem dX2_join_3 : decode cX2_join 3 = .ok (.invokevirtual 38, 3) := by decide +kernel
theorem dX2_join_6 : decode cX2_join 6 = .ok (.istore 4, 2) := by decide +kernel
theorem dX2_join_8 : decode cX2_join 8 = .ok (.aload_n 0, 1) := by decide +kernel
theorem dX2_join_9 : decode cX2_join 9 = .ok (.getfield 11, 3) := by decide +kernel
theorem dX2_join_12 : decode cX2_join 12 = .ok (.iload_n 1, 1) := by decide +kernel
theorem dX2_join_13 : decode cX2_join 13 = .ok (.iload_n 2, 1) := by decide +kernel
theorem dX2_join_14 : decode cX2_join 14 = .ok (.invokestatic 29, 3) := by decide +kernel
theorem dX2_join_17 : decode cX2_join 17 = .ok (.aaload, 1) := by decide +kernel
theorem dX2_join_18 : decode cX2_join 18 = .ok (.iload_n 1, 1) := by decide +kernel
theorem dX2_join_19 : decode cX2_join 19 = .ok (.iload_n 2, 1) := by decide +kernel
theorem dX2_join_20 : decode cX2_join 20 = .ok (.invokestatic 35, 3) := by decide +kernel
theorem dX2_join_23 : decode cX2_join 23 = .ok (.iload_n 3, 1) := by decide +kernel
theorem dX2_join_24 : decode cX2_join 24 = .ok (.iastore, 1) := by decide +kernel
theorem dX2_join_25 : decode cX2_join 25 = .ok (.iload 4, 2) := by decide +kernel
theorem dX2_join_27 : decode cX2_join 27 = .ok (.ireturn, 1) := by decide +kernel
set_option maxRecDepth 20000 in
theorem ggX2_joined_X2_between : GoodIn wsX2_joined wsX2_between := goodIn_r _ [5, 6, 7, 8, 9, 10, 11, 12, 13, 14, 15, 16, 17, 18] (by decide +kernel) (by decide +kernel)
set_option maxRecDepth 20000 in
theorem gX2_joined_X2_between : GoodIn wsX2_joined (wsV RX2 38 RX2 yX2_between wsX2_between) := goodIn_app (goodIn_of _ (by decide +kernel)) ggX2_joined_X2_between
theorem dX2_joined_0 : decode cX2_joined 0 = .ok (.iconst 0, 1) := by decide +kernel
theorem dX2_joined_1 : decode cX2_joined 1 = .ok (.istore_n 1, 1) := by decide +kernel
theorem dX2_joined_2 : decode cX2_joined 2 = .ok (.iconst 0, 1) := by decide +kernel
theorem dX2_joined_3 : decode cX2_joined 3 = .ok (.istore_n 2, 1) := by decide +kernel
theorem dX2_joined_4 : decode cX2_joined 4 = .ok (.iload_n 2, 1) := by decide +kernel
theorem dX2_joined_5 : decode cX2_joined 5 = .ok (.bipush 8, 2) := by decide +kernel
theorem dX2_joined_7 : decode cX2_joined 7 = .ok (.if_icmp .ge 38, 3) := by decide +kernel
theorem dX2_joined_10 : decode cX2_joined 10 = .ok (.iload_n 2, 1) := by decide +kernel
theorem dX2_joined_11 : decode cX2_joined 11 = .ok (.iconst 1, 1) := by decide +kernel
theorem dX2_joined_12 : decode cX2_joined 12 = .ok (.iadd, 1) := by decide +kernel
theorem dX2_joined_13 : decode cX2_joined 13 = .ok (.istore_n 3, 1) := by decide +kernel
theorem dX2_joined_14 : decode cX2_joined 14 = .ok (.iload_n 3, 1) := by decide +kernel
theorem dX2_joined_15 : decode cX2_joined 15 = .ok (.bipush 8, 2) := by decide +kernel
theorem dX2_joined_17 : decode cX2_joined 17 = .ok (.if_icmp .ge 22, 3) := by decide +kernel
theorem dX2_joined_20 : decode cX2_joined 20 = .ok (.aload_n 0, 1) := by decide +kernel
theorem dX2_joined_21 : decode cX2_joined 21 = .ok (.iload_n 2, 1) := by decide +kernel
theorem dX2_joined_22 : decode cX2_joined 22 = .ok (.iload_n 3, 1) := by decide +kernel
theorem dX2_joined_23 : decode cX2_joined 23 = .ok (.invokevirtual 38, 3) := by decide +kernel
theorem dX2_joined_26 : decode cX2_joined 26 = .ok (.iconst (-1), 1) := by decide +kernel
theorem dX2_joined_27 : decode cX2_joined 27 = .ok (.if_icmp .eq 6, 3) := by decide +kernel
theorem dX2_joined_30 : decode cX2_joined 30 = .ok (.iinc 1 1, 3) := by decide +kernel
theorem dX2_joined_33 : decode cX2_joined 33 = .ok (.iinc 3 1, 3) := by decide +kernel
theorem dX2_joined_36 : decode cX2_joined 36 = .ok (.goto (-22), 3) := by decide +kernel
theorem dX2_joined_39 : decode cX2_joined 39 = .ok (.iinc 2 1, 3) := by decide +kernel
theorem dX2_joined_42 : decode cX2_joined 42 = .ok (.goto (-38), 3) := by decide +kernel
theorem dX2_joined_45 : decode cX2_joined 45 = .ok (.iload_n 1, 1) := by decide +kernel
theorem dX2_joined_46 : decode cX2_joined 46 = .ok (.ireturn, 1) := by decide +kernel
set_option maxRecDepth 20000 in
theorem ggX2_search_J7_fill_53178 : GoodIn wsX2_search wsJ7_fill_53178 := goodIn_r _ [13] (by decide +kernel) (by decide +kernel)
set_option maxRecDepth 20000 in
theorem gX2_search_J7_fill_53178 : GoodIn wsX2_search (va_wsS RX2 23 yJ7_fill_53178 wsJ7_fill_53178) := goodIn_app (goodIn_of _ (by decide +kernel)) ggX2_search_J7_fill_53178
set_option maxRecDepth 20000 in
theorem ggX2_search_X2_bestInto : GoodIn wsX2_search wsX2_bestInto := goodIn_r _ [18, 3, 19, 20, 21, 22, 23, 24, 25, 17, 26, 27, 28, 29, 30, 31, 32, 33, 34, 35] (by decide +kernel) (by decide +kernel)
set_option maxRecDepth 20000 in
theorem gX2_search_X2_bestInto : GoodIn wsX2_search (wsV RX2 49 RX2 yX2_bestInto wsX2_bestInto) := goodIn_app (goodIn_of _ (by decide +kernel)) ggX2_search_X2_bestInto
theorem dX2_search_0 : decode cX2_search 0 = .ok (.aload_n 0, 1) := by decide +kernel
theorem dX2_search_1 : decode cX2_search 1 = .ok (.iconst 0, 1) := by decide +kernel
theorem dX2_search_2 : decode cX2_search 2 = .ok (.putfield 41, 3) := by decide +kernel
theorem dX2_search_5 : decode cX2_search 5 = .ok (.aload_n 0, 1) := by decide +kernel
theorem dX2_search_6 : decode cX2_search 6 = .ok (.iconst 0, 1) := by decide +kernel
theorem dX2_search_7 : decode cX2_search 7 = .ok (.putfield 45, 3) := by decide +kernel
theorem dX2_search_10 : decode cX2_search 10 = .ok (.aload_n 0, 1) := by decide +kernel
theorem dX2_search_11 : decode cX2_search 11 = .ok (.getfield 16, 3) := by decide +kernel
theorem dX2_search_14 : decode cX2_search 14 = .ok (.iconst 0, 1) := by decide +kernel
theorem dX2_search_15 : decode cX2_search 15 = .ok (.invokestatic 23, 3) := by decide +kernel
theorem dX2_search_18 : decode cX2_search 18 = .ok (.aload_n 0, 1) := by decide +kernel
theorem dX2_search_19 : decode cX2_search 19 = .ok (.getfield 16, 3) := by decide +kernel
theorem dX2_search_22 : decode cX2_search 22 = .ok (.iload_n 1, 1) := by decide +kernel
theorem dX2_search_23 : decode cX2_search 23 = .ok (.ldc 48, 2) := by decide +kernel
theorem dX2_search_25 : decode cX2_search 25 = .ok (.iastore, 1) := by decide +kernel
theorem dX2_search_26 : decode cX2_search 26 = .ok (.iconst 1, 1) := by decide +kernel
theorem dX2_search_27 : decode cX2_search 27 = .ok (.istore_n 3, 1) := by decide +kernel
theorem dX2_search_28 : decode cX2_search 28 = .ok (.iload_n 3, 1) := by decide +kernel
theorem dX2_search_29 : decode cX2_search 29 = .ok (.bipush 7, 2) := by decide +kernel
theorem dX2_search_31 : decode cX2_search 31 = .ok (.if_icmp .gt 81, 3) := by decide +kernel
theorem dX2_search_34 : decode cX2_search 34 = .ok (.iconst 0, 1) := by decide +kernel
theorem dX2_search_35 : decode cX2_search 35 = .ok (.istore 4, 2) := by decide +kernel
theorem dX2_search_37 : decode cX2_search 37 = .ok (.iload 4, 2) := by decide +kernel
theorem dX2_search_39 : decode cX2_search 39 = .ok (.bipush 8, 2) := by decide +kernel
theorem dX2_search_41 : decode cX2_search 41 = .ok (.if_icmp .ge 22, 3) := by decide +kernel
theorem dX2_search_44 : decode cX2_search 44 = .ok (.aload_n 0, 1) := by decide +kernel
theorem dX2_search_45 : decode cX2_search 45 = .ok (.getfield 20, 3) := by decide +kernel
theorem dX2_search_48 : decode cX2_search 48 = .ok (.iload 4, 2) := by decide +kernel
theorem dX2_search_50 : decode cX2_search 50 = .ok (.aload_n 0, 1) := by decide +kernel
theorem dX2_search_51 : decode cX2_search 51 = .ok (.iload 4, 2) := by decide +kernel
theorem dX2_search_53 : decode cX2_search 53 = .ok (.invokevirtual 49, 3) := by decide +kernel
theorem dX2_search_56 : decode cX2_search 56 = .ok (.iastore, 1) := by decide +kernel
theorem dX2_search_57 : decode cX2_search 57 = .ok (.iinc 4 1, 3) := by decide +kernel
theorem dX2_search_60 : decode cX2_search 60 = .ok (.goto (-23), 3) := by decide +kernel
theorem dX2_search_63 : decode cX2_search 63 = .ok (.aload_n 0, 1) := by decide +kernel
theorem dX2_search_64 : decode cX2_search 64 = .ok (.getfield 20, 3) := by decide +kernel
theorem dX2_search_67 : decode cX2_search 67 = .ok (.iconst 0, 1) := by decide +kernel
theorem dX2_search_68 : decode cX2_search 68 = .ok (.aload_n 0, 1) := by decide +kernel
theorem dX2_search_69 : decode cX2_search 69 = .ok (.getfield 16, 3) := by decide +kernel
theorem dX2_search_72 : decode cX2_search 72 = .ok (.iconst 0, 1) := by decide +kernel
theorem dX2_search_73 : decode cX2_search 73 = .ok (.bipush 8, 2) := by decide +kernel
theorem dX2_search_75 : decode cX2_search 75 = .ok (.invokestatic 53, 3) := by decide +kernel
theorem dX2_search_78 : decode cX2_search 78 = .ok (.aload_n 0, 1) := by decide +kernel
theorem dX2_search_79 : decode cX2_search 79 = .ok (.getfield 16, 3) := by decide +kernel
theorem dX2_search_82 : decode cX2_search 82 = .ok (.iload_n 2, 1) := by decide +kernel
theorem dX2_search_83 : decode cX2_search 83 = .ok (.iaload, 1) := by decide +kernel
theorem dX2_search_84 : decode cX2_search 84 = .ok (.aload_n 0, 1) := by decide +kernel
theorem dX2_search_85 : decode cX2_search 85 = .ok (.getfield 41, 3) := by decide +kernel
theorem dX2_search_88 : decode cX2_search 88 = .ok (.if_icmp .le 18, 3) := by decide +kernel
theorem dX2_search_91 : decode cX2_search 91 = .ok (.aload_n 0, 1) := by decide +kernel
theorem dX2_search_92 : decode cX2_search 92 = .ok (.aload_n 0, 1) := by decide +kernel
theorem dX2_search_93 : decode cX2_search 93 = .ok (.getfield 16, 3) := by decide +kernel
theorem dX2_search_96 : decode cX2_search 96 = .ok (.iload_n 2, 1) := by decide +kernel
theorem dX2_search_97 : decode cX2_search 97 = .ok (.iaload, 1) := by decide +kernel
theorem dX2_search_98 : decode cX2_search 98 = .ok (.putfield 41, 3) := by decide +kernel
theorem dX2_search_101 : decode cX2_search 101 = .ok (.aload_n 0, 1) := by decide +kernel
theorem dX2_search_102 : decode cX2_search 102 = .ok (.iload_n 3, 1) := by decide +kernel
theorem dX2_search_103 : decode cX2_search 103 = .ok (.putfield 45, 3) := by decide +kernel
theorem dX2_search_106 : decode cX2_search 106 = .ok (.iinc 3 1, 3) := by decide +kernel
theorem dX2_search_109 : decode cX2_search 109 = .ok (.goto (-81), 3) := by decide +kernel
theorem dX2_search_112 : decode cX2_search 112 = .ok (.aload_n 0, 1) := by decide +kernel
theorem dX2_search_113 : decode cX2_search 113 = .ok (.getfield 41, 3) := by decide +kernel
theorem dX2_search_116 : decode cX2_search 116 = .ok (.ifCond .le 7, 3) := by decide +kernel
theorem dX2_search_119 : decode cX2_search 119 = .ok (.iconst 1, 1) := by decide +kernel
theorem dX2_search_120 : decode cX2_search 120 = .ok (.goto 4, 3) := by decide +kernel
theorem dX2_search_123 : decode cX2_search 123 = .ok (.iconst 0, 1) := by decide +kernel
theorem dX2_search_124 : decode cX2_search 124 = .ok (.ireturn, 1) := by decide +kernel
set_option maxRecDepth 20000 in
theorem ggX2_bestInto_X2_between : GoodIn wsX2_bestInto wsX2_between := goodIn_r _ [10, 11, 12, 13, 4, 14, 2, 3, 5, 15, 16, 17, 18, 19] (by decide +kernel) (by decide +kernel)
set_option maxRecDepth 20000 in
theorem gX2_bestInto_X2_between : GoodIn wsX2_bestInto (wsV RX2 38 RX2 yX2_between wsX2_between) := goodIn_app (goodIn_of _ (by decide +kernel)) ggX2_bestInto_X2_between
theorem dX2_bestInto_0 : decode cX2_bestInto 0 = .ok (.iconst 0, 1) := by decide +kernel
theorem dX2_bestInto_1 : decode cX2_bestInto 1 = .ok (.istore_n 2, 1) := by decide +kernel
theorem dX2_bestInto_2 : decode cX2_bestInto 2 = .ok (.iconst 0, 1) := by decide +kernel
theorem dX2_bestInto_3 : decode cX2_bestInto 3 = .ok (.istore_n 3, 1) := by decide +kernel
theorem dX2_bestInto_4 : decode cX2_bestInto 4 = .ok (.iload_n 3, 1) := by decide +kernel
theorem dX2_bestInto_5 : decode cX2_bestInto 5 = .ok (.bipush 8, 2) := by decide +kernel
theorem dX2_bestInto_7 : decode cX2_bestInto 7 = .ok (.if_icmp .ge 43, 3) := by decide +kernel
theorem dX2_bestInto_10 : decode cX2_bestInto 10 = .ok (.aload_n 0, 1) := by decide +kernel
theorem dX2_bestInto_11 : decode cX2_bestInto 11 = .ok (.iload_n 3, 1) := by decide +kernel
theorem dX2_bestInto_12 : decode cX2_bestInto 12 = .ok (.iload_n 1, 1) := by decide +kernel
theorem dX2_bestInto_13 : decode cX2_bestInto 13 = .ok (.invokevirtual 38, 3) := by decide +kernel
theorem dX2_bestInto_16 : decode cX2_bestInto 16 = .ok (.istore 4, 2) := by decide +kernel
theorem dX2_bestInto_18 : decode cX2_bestInto 18 = .ok (.iload 4, 2) := by decide +kernel
theorem dX2_bestInto_20 : decode cX2_bestInto 20 = .ok (.iconst (-1), 1) := by decide +kernel
theorem dX2_bestInto_21 : decode cX2_bestInto 21 = .ok (.if_icmp .eq 23, 3) := by decide +kernel
theorem dX2_bestInto_24 : decode cX2_bestInto 24 = .ok (.iload_n 2, 1) := by decide +kernel
theorem dX2_bestInto_25 : decode cX2_bestInto 25 = .ok (.aload_n 0, 1) := by decide +kernel
theorem dX2_bestInto_26 : decode cX2_bestInto 26 = .ok (.getfield 16, 3) := by decide +kernel
theorem dX2_bestInto_29 : decode cX2_bestInto 29 = .ok (.iload_n 3, 1) := by decide +kernel
theorem dX2_bestInto_30 : decode cX2_bestInto 30 = .ok (.iaload, 1) := by decide +kernel
theorem dX2_bestInto_31 : decode cX2_bestInto 31 = .ok (.bipush 16, 2) := by decide +kernel
theorem dX2_bestInto_33 : decode cX2_bestInto 33 = .ok (.idiv, 1) := by decide +kernel
theorem dX2_bestInto_34 : decode cX2_bestInto 34 = .ok (.bipush 16, 2) := by decide +kernel
theorem dX2_bestInto_36 : decode cX2_bestInto 36 = .ok (.iload 4, 2) := by decide +kernel
theorem dX2_bestInto_38 : decode cX2_bestInto 38 = .ok (.isub, 1) := by decide +kernel
theorem dX2_bestInto_39 : decode cX2_bestInto 39 = .ok (.imul, 1) := by decide +kernel
theorem dX2_bestInto_40 : decode cX2_bestInto 40 = .ok (.invokestatic 35, 3) := by decide +kernel
theorem dX2_bestInto_43 : decode cX2_bestInto 43 = .ok (.istore_n 2, 1) := by decide +kernel
theorem dX2_bestInto_44 : decode cX2_bestInto 44 = .ok (.iinc 3 1, 3) := by decide +kernel
theorem dX2_bestInto_47 : decode cX2_bestInto 47 = .ok (.goto (-43), 3) := by decide +kernel
theorem dX2_bestInto_50 : decode cX2_bestInto 50 = .ok (.iload_n 2, 1) := by decide +kernel
theorem dX2_bestInto_51 : decode cX2_bestInto 51 = .ok (.ireturn, 1) := by decide +kernel
theorem dX2_become_0 : decode cX2_become 0 = .ok (.iconst 0, 1) := by decide +kernel
theorem dX2_become_1 : decode cX2_become 1 = .ok (.istore_n 2, 1) := by decide +kernel
theorem dX2_become_2 : decode cX2_become 2 = .ok (.iload_n 2, 1) := by decide +kernel
theorem dX2_become_3 : decode cX2_become 3 = .ok (.bipush 8, 2) := by decide +kernel
theorem dX2_become_5 : decode cX2_become 5 = .ok (.if_icmp .ge 28, 3) := by decide +kernel
theorem dX2_become_8 : decode cX2_become 8 = .ok (.aload_n 1, 1) := by decide +kernel
theorem dX2_become_9 : decode cX2_become 9 = .ok (.getfield 11, 3) := by decide +kernel
theorem dX2_become_12 : decode cX2_become 12 = .ok (.iload_n 2, 1) := by decide +kernel
theorem dX2_become_13 : decode cX2_become 13 = .ok (.aaload, 1) := by decide +kernel
theorem dX2_become_14 : decode cX2_become 14 = .ok (.iconst 0, 1) := by decide +kernel
theorem dX2_become_15 : decode cX2_become 15 = .ok (.aload_n 0, 1) := by decide +kernel
theorem dX2_become_16 : decode cX2_become 16 = .ok (.getfield 11, 3) := by decide +kernel
theorem dX2_become_19 : decode cX2_become 19 = .ok (.iload_n 2, 1) := by decide +kernel
theorem dX2_become_20 : decode cX2_become 20 = .ok (.aaload, 1) := by decide +kernel
theorem dX2_become_21 : decode cX2_become 21 = .ok (.iconst 0, 1) := by decide +kernel
theorem dX2_become_22 : decode cX2_become 22 = .ok (.bipush 8, 2) := by decide +kernel
theorem dX2_become_24 : decode cX2_become 24 = .ok (.invokestatic 53, 3) := by decide +kernel
theorem dX2_become_27 : decode cX2_become 27 = .ok (.iinc 2 1, 3) := by decide +kernel
theorem dX2_become_30 : decode cX2_become 30 = .ok (.goto (-28), 3) := by decide +kernel
theorem dX2_become_33 : decode cX2_become 33 = .ok (.return_, 1) := by decide +kernel
theorem dX3_init_0 : decode cX3_init 0 = .ok (.aload_n 0, 1) := by decide +kernel
theorem dX3_init_1 : decode cX3_init 1 = .ok (.invokespecial 3, 3) := by decide +kernel
theorem dX3_init_4 : decode cX3_init 4 = .ok (.aload_n 0, 1) := by decide +kernel
theorem dX3_init_5 : decode cX3_init 5 = .ok (.bipush 9, 2) := by decide +kernel
theorem dX3_init_7 : decode cX3_init 7 = .ok (.newarray .int, 2) := by decide +kernel
theorem dX3_init_9 : decode cX3_init 9 = .ok (.putfield 9, 3) := by decide +kernel
theorem dX3_init_12 : decode cX3_init 12 = .ok (.aload_n 0, 1) := by decide +kernel
theorem dX3_init_13 : decode cX3_init 13 = .ok (.bipush 9, 2) := by decide +kernel
theorem dX3_init_15 : decode cX3_init 15 = .ok (.newarray .int, 2) := by decide +kernel
theorem dX3_init_17 : decode cX3_init 17 = .ok (.putfield 15, 3) := by decide +kernel
theorem dX3_init_20 : decode cX3_init 20 = .ok (.return_, 1) := by decide +kernel
theorem dX3_setMud_0 : decode cX3_setMud 0 = .ok (.aload_n 0, 1) := by decide +kernel
theorem dX3_setMud_1 : decode cX3_setMud 1 = .ok (.getfield 9, 3) := by decide +kernel
theorem dX3_setMud_4 : decode cX3_setMud 4 = .ok (.iload_n 1, 1) := by decide +kernel
theorem dX3_setMud_5 : decode cX3_setMud 5 = .ok (.iaload, 1) := by decide +kernel
theorem dX3_setMud_6 : decode cX3_setMud 6 = .ok (.istore_n 3, 1) := by decide +kernel
theorem dX3_setMud_7 : decode cX3_setMud 7 = .ok (.aload_n 0, 1) := by decide +kernel
theorem dX3_setMud_8 : decode cX3_setMud 8 = .ok (.getfield 9, 3) := by decide +kernel
theorem dX3_setMud_11 : decode cX3_setMud 11 = .ok (.iload_n 1, 1) := by decide +kernel
theorem dX3_setMud_12 : decode cX3_setMud 12 = .ok (.iload_n 2, 1) := by decide +kernel
theorem dX3_setMud_13 : decode cX3_setMud 13 = .ok (.iastore, 1) := by decide +kernel
theorem dX3_setMud_14 : decode cX3_setMud 14 = .ok (.iload_n 3, 1) := by decide +kernel
theorem dX3_setMud_15 : decode cX3_setMud 15 = .ok (.ireturn, 1) := by decide +kernel
theorem dX3_setWatched_0 : decode cX3_setWatched 0 = .ok (.aload_n 0, 1) := by decide +kernel
theorem dX3_setWatched_1 : decode cX3_setWatched 1 = .ok (.getfield 15, 3) := by decide +kernel
theorem dX3_setWatched_4 : decode cX3_setWatched 4 = .ok (.iload_n 1, 1) := by decide +kernel
theorem dX3_setWatched_5 : decode cX3_setWatched 5 = .ok (.iaload, 1) := by decide +kernel
theorem dX3_setWatched_6 : decode cX3_setWatched 6 = .ok (.istore_n 3, 1) := by decide +kernel
theorem dX3_setWatched_7 : decode cX3_setWatched 7 = .ok (.aload_n 0, 1) := by decide +kernel
theorem dX3_setWatched_8 : decode cX3_setWatched 8 = .ok (.getfield 15, 3) := by decide +kernel
theorem dX3_setWatched_11 : decode cX3_setWatched 11 = .ok (.iload_n 1, 1) := by decide +kernel
theorem dX3_setWatched_12 : decode cX3_setWatched 12 = .ok (.iload_n 2, 1) := by decide +kernel
theorem dX3_setWatched_13 : decode cX3_setWatched 13 = .ok (.iastore, 1) := by decide +kernel
theorem dX3_setWatched_14 : decode cX3_setWatched 14 = .ok (.iload_n 3, 1) := by decide +kernel
theorem dX3_setWatched_15 : decode cX3_setWatched 15 = .ok (.ireturn, 1) := by decide +kernel
theorem dX3_allMud_0 : decode cX3_allMud 0 = .ok (.iconst 0, 1) := by decide +kernel
theorem dX3_allMud_1 : decode cX3_allMud 1 = .ok (.istore_n 1, 1) := by decide +kernel
theorem dX3_allMud_2 : decode cX3_allMud 2 = .ok (.iconst 0, 1) := by decide +kernel
theorem dX3_allMud_3 : decode cX3_allMud 3 = .ok (.istore_n 2, 1) := by decide +kernel
theorem dX3_allMud_4 : decode cX3_allMud 4 = .ok (.iload_n 2, 1) := by decide +kernel
theorem dX3_allMud_5 : decode cX3_allMud 5 = .ok (.bipush 9, 2) := by decide +kernel
theorem dX3_allMud_7 : decode cX3_allMud 7 = .ok (.if_icmp .ge 18, 3) := by decide +kernel
theorem dX3_allMud_10 : decode cX3_allMud 10 = .ok (.iload_n 1, 1) := by decide +kernel
theorem dX3_allMud_11 : decode cX3_allMud 11 = .ok (.aload_n 0, 1) := by decide +kernel
theorem dX3_allMud_12 : decode cX3_allMud 12 = .ok (.getfield 9, 3) := by decide +kernel
theorem dX3_allMud_15 : decode cX3_allMud 15 = .ok (.iload_n 2, 1) := by decide +kernel
theorem dX3_allMud_16 : decode cX3_allMud 16 = .ok (.iaload, 1) := by decide +kernel
theorem dX3_allMud_17 : decode cX3_allMud 17 = .ok (.iadd, 1) := by decide +kernel
theorem dX3_allMud_18 : decode cX3_allMud 18 = .ok (.istore_n 1, 1) := by decide +kernel
theorem dX3_allMud_19 : decode cX3_allMud 19 = .ok (.iinc 2 1, 3) := by decide +kernel
theorem dX3_allMud_22 : decode cX3_allMud 22 = .ok (.goto (-18), 3) := by decide +kernel
theorem dX3_allMud_25 : decode cX3_allMud 25 = .ok (.iload_n 1, 1) := by decide +kernel
theorem dX3_allMud_26 : decode cX3_allMud 26 = .ok (.ireturn, 1) := by decide +kernel
theorem dX3_become_0 : decode cX3_become 0 = .ok (.aload_n 1, 1) := by decide +kernel
theorem dX3_become_1 : decode cX3_become 1 = .ok (.getfield 9, 3) := by decide +kernel
theorem dX3_become_4 : decode cX3_become 4 = .ok (.iconst 0, 1) := by decide +kernel
theorem dX3_become_5 : decode cX3_become 5 = .ok (.aload_n 0, 1) := by decide +kernel
theorem dX3_become_6 : decode cX3_become 6 = .ok (.getfield 9, 3) := by decide +kernel
theorem dX3_become_9 : decode cX3_become 9 = .ok (.iconst 0, 1) := by decide +kernel
theorem dX3_become_10 : decode cX3_become 10 = .ok (.bipush 9, 2) := by decide +kernel
theorem dX3_become_12 : decode cX3_become 12 = .ok (.invokestatic 18, 3) := by decide +kernel
theorem dX3_become_15 : decode cX3_become 15 = .ok (.aload_n 1, 1) := by decide +kernel
theorem dX3_become_16 : decode cX3_become 16 = .ok (.getfield 15, 3) := by decide +kernel
theorem dX3_become_19 : decode cX3_become 19 = .ok (.iconst 0, 1) := by decide +kernel
theorem dX3_become_20 : decode cX3_become 20 = .ok (.aload_n 0, 1) := by decide +kernel
theorem dX3_become_21 : decode cX3_become 21 = .ok (.getfield 15, 3) := by decide +kernel
theorem dX3_become_24 : decode cX3_become 24 = .ok (.iconst 0, 1) := by decide +kernel
theorem dX3_become_25 : decode cX3_become 25 = .ok (.bipush 9, 2) := by decide +kernel
theorem dX3_become_27 : decode cX3_become 27 = .ok (.invokestatic 18, 3) := by decide +kernel
theorem dX3_become_30 : decode cX3_become 30 = .ok (.return_, 1) := by decide +kernel
theorem dX4_init_0 : decode cX4_init 0 = .ok (.aload_n 0, 1) := by decide +kernel
theorem dX4_init_1 : decode cX4_init 1 = .ok (.invokespecial 3, 3) := by decide +kernel
theorem dX4_init_4 : decode cX4_init 4 = .ok (.aload_n 0, 1) := by decide +kernel
theorem dX4_init_5 : decode cX4_init 5 = .ok (.bipush 24, 2) := by decide +kernel
theorem dX4_init_7 : decode cX4_init 7 = .ok (.newarray .int, 2) := by decide +kernel
theorem dX4_init_9 : decode cX4_init 9 = .ok (.putfield 9, 3) := by decide +kernel
theorem dX4_init_12 : decode cX4_init 12 = .ok (.aload_n 0, 1) := by decide +kernel
theorem dX4_init_13 : decode cX4_init 13 = .ok (.iconst (-1), 1) := by decide +kernel
theorem dX4_init_14 : decode cX4_init 14 = .ok (.putfield 15, 3) := by decide +kernel
theorem dX4_init_17 : decode cX4_init 17 = .ok (.return_, 1) := by decide +kernel
theorem dX4_isNothing_0 : decode cX4_isNothing 0 = .ok (.aload_n 0, 1) := by decide +kernel
theorem dX4_isNothing_1 : decode cX4_isNothing 1 = .ok (.getfield 15, 3) := by decide +kernel
theorem dX4_isNothing_4 : decode cX4_isNothing 4 = .ok (.iconst (-1), 1) := by decide +kernel
theorem dX4_isNothing_5 : decode cX4_isNothing 5 = .ok (.if_icmp .ne 7, 3) := by decide +kernel
theorem dX4_isNothing_8 : decode cX4_isNothing 8 = .ok (.iconst 1, 1) := by decide +kernel
theorem dX4_isNothing_9 : decode cX4_isNothing 9 = .ok (.goto 4, 3) := by decide +kernel
theorem dX4_isNothing_12 : decode cX4_isNothing 12 = .ok (.iconst 0, 1) := by decide +kernel
theorem dX4_isNothing_13 : decode cX4_isNothing 13 = .ok (.ireturn, 1) := by decide +kernel
set_option maxRecDepth 20000 in
theorem ggX4_begin_J7_fill_53178 : GoodIn wsX4_begin wsJ7_fill_53178 := goodIn_r _ [7] (by decide +kernel) (by decide +kernel)
set_option maxRecDepth 20000 in
theorem gX4_begin_J7_fill_53178 : GoodIn wsX4_begin (va_wsS RX4 22 yJ7_fill_53178 wsJ7_fill_53178) := goodIn_app (goodIn_of _ (by decide +kernel)) ggX4_begin_J7_fill_53178
theorem dX4_begin_0 : decode cX4_begin 0 = .ok (.aload_n 0, 1) := by decide +kernel
theorem dX4_begin_1 : decode cX4_begin 1 = .ok (.iload_n 1, 1) := by decide +kernel
theorem dX4_begin_2 : decode cX4_begin 2 = .ok (.putfield 15, 3) := by decide +kernel
theorem dX4_begin_5 : decode cX4_begin 5 = .ok (.aload_n 0, 1) := by decide +kernel
theorem dX4_begin_6 : decode cX4_begin 6 = .ok (.iload_n 2, 1) := by decide +kernel
theorem dX4_begin_7 : decode cX4_begin 7 = .ok (.putfield 19, 3) := by decide +kernel
theorem dX4_begin_10 : decode cX4_begin 10 = .ok (.aload_n 0, 1) := by decide +kernel
theorem dX4_begin_11 : decode cX4_begin 11 = .ok (.getfield 9, 3) := by decide +kernel
theorem dX4_begin_14 : decode cX4_begin 14 = .ok (.iconst 0, 1) := by decide +kernel
theorem dX4_begin_15 : decode cX4_begin 15 = .ok (.invokestatic 22, 3) := by decide +kernel
theorem dX4_begin_18 : decode cX4_begin 18 = .ok (.return_, 1) := by decide +kernel
theorem dX4_clear_0 : decode cX4_clear 0 = .ok (.aload_n 0, 1) := by decide +kernel
theorem dX4_clear_1 : decode cX4_clear 1 = .ok (.iconst (-1), 1) := by decide +kernel
theorem dX4_clear_2 : decode cX4_clear 2 = .ok (.putfield 15, 3) := by decide +kernel
theorem dX4_clear_5 : decode cX4_clear 5 = .ok (.aload_n 0, 1) := by decide +kernel
theorem dX4_clear_6 : decode cX4_clear 6 = .ok (.iconst 0, 1) := by decide +kernel
theorem dX4_clear_7 : decode cX4_clear 7 = .ok (.putfield 19, 3) := by decide +kernel
theorem dX4_clear_10 : decode cX4_clear 10 = .ok (.return_, 1) := by decide +kernel
theorem dX4_holds_0 : decode cX4_holds 0 = .ok (.iload_n 1, 1) := by decide +kernel
theorem dX4_holds_1 : decode cX4_holds 1 = .ok (.ifCond .lt 29, 3) := by decide +kernel
theorem dX4_holds_4 : decode cX4_holds 4 = .ok (.iload_n 2, 1) := by decide +kernel
theorem dX4_holds_5 : decode cX4_holds 5 = .ok (.ifCond .lt 25, 3) := by decide +kernel
theorem dX4_holds_8 : decode cX4_holds 8 = .ok (.iload_n 1, 1) := by decide +kernel
theorem dX4_holds_9 : decode cX4_holds 9 = .ok (.aload_n 0, 1) := by decide +kernel
theorem dX4_holds_10 : decode cX4_holds 10 = .ok (.getfield 19, 3) := by decide +kernel
theorem dX4_holds_13 : decode cX4_holds 13 = .ok (.if_icmp .gt 17, 3) := by decide +kernel
theorem dX4_holds_16 : decode cX4_holds 16 = .ok (.iload_n 2, 1) := by decide +kernel
theorem dX4_holds_17 : decode cX4_holds 17 = .ok (.aload_n 0, 1) := by decide +kernel
theorem dX4_holds_18 : decode cX4_holds 18 = .ok (.getfield 19, 3) := by decide +kernel
theorem dX4_holds_21 : decode cX4_holds 21 = .ok (.iload_n 1, 1) := by decide +kernel
theorem dX4_holds_22 : decode cX4_holds 22 = .ok (.isub, 1) := by decide +kernel
theorem dX4_holds_23 : decode cX4_holds 23 = .ok (.if_icmp .gt 7, 3) := by decide +kernel
theorem dX4_holds_26 : decode cX4_holds 26 = .ok (.iconst 1, 1) := by decide +kernel
theorem dX4_holds_27 : decode cX4_holds 27 = .ok (.goto 4, 3) := by decide +kernel
theorem dX4_holds_30 : decode cX4_holds 30 = .ok (.iconst 0, 1) := by decide +kernel
theorem dX4_holds_31 : decode cX4_holds 31 = .ok (.ireturn, 1) := by decide +kernel
set_option maxRecDepth 20000 in
theorem ggX4_refusal_X4_isNothing : GoodIn wsX4_refusal wsX4_isNothing := goodIn_r _ [6, 1, 12, 13, 14] (by decide +kernel) (by decide +kernel)
set_option maxRecDepth 20000 in
theorem gX4_refusal_X4_isNothing : GoodIn wsX4_refusal (wsV RX4 28 RX4 yX4_isNothing wsX4_isNothing) := goodIn_app (goodIn_of _ (by decide +kernel)) ggX4_refusal_X4_isNothing
set_option maxRecDepth 20000 in
theorem ggX4_refusal_X4_holds : GoodIn wsX4_refusal wsX4_holds := goodIn_r _ [10, 11, 12, 13, 14] (by decide +kernel) (by decide +kernel)
set_option maxRecDepth 20000 in
theorem gX4_refusal_X4_holds : GoodIn wsX4_refusal (wsV RX4 32 RX4 yX4_holds wsX4_holds) := goodIn_app (goodIn_of _ (by decide +kernel)) ggX4_refusal_X4_holds
theorem dX4_refusal_0 : decode cX4_refusal 0 = .ok (.aload_n 0, 1) := by decide +kernel
theorem dX4_refusal_1 : decode cX4_refusal 1 = .ok (.invokevirtual 28, 3) := by decide +kernel
theorem dX4_refusal_4 : decode cX4_refusal 4 = .ok (.ifCond .eq 6, 3) := by decide +kernel
theorem dX4_refusal_7 : decode cX4_refusal 7 = .ok (.bipush (-11), 2) := by decide +kernel
theorem dX4_refusal_9 : decode cX4_refusal 9 = .ok (.ireturn, 1) := by decide +kernel
theorem dX4_refusal_10 : decode cX4_refusal 10 = .ok (.aload_n 0, 1) := by decide +kernel
theorem dX4_refusal_11 : decode cX4_refusal 11 = .ok (.getfield 15, 3) := by decide +kernel
theorem dX4_refusal_14 : decode cX4_refusal 14 = .ok (.iload_n 1, 1) := by decide +kernel
theorem dX4_refusal_15 : decode cX4_refusal 15 = .ok (.if_icmp .eq 6, 3) := by decide +kernel
theorem dX4_refusal_18 : decode cX4_refusal 18 = .ok (.bipush (-12), 2) := by decide +kernel
theorem dX4_refusal_20 : decode cX4_refusal 20 = .ok (.ireturn, 1) := by decide +kernel
theorem dX4_refusal_21 : decode cX4_refusal 21 = .ok (.aload_n 0, 1) := by decide +kernel
theorem dX4_refusal_22 : decode cX4_refusal 22 = .ok (.iload_n 2, 1) := by decide +kernel
theorem dX4_refusal_23 : decode cX4_refusal 23 = .ok (.iload_n 3, 1) := by decide +kernel
theorem dX4_refusal_24 : decode cX4_refusal 24 = .ok (.invokevirtual 32, 3) := by decide +kernel
theorem dX4_refusal_27 : decode cX4_refusal 27 = .ok (.ifCond .eq 7, 3) := by decide +kernel
theorem dX4_refusal_30 : decode cX4_refusal 30 = .ok (.iconst 0, 1) := by decide +kernel
theorem dX4_refusal_31 : decode cX4_refusal 31 = .ok (.goto 5, 3) := by decide +kernel
theorem dX4_refusal_34 : decode cX4_refusal 34 = .ok (.bipush (-13), 2) := by decide +kernel
theorem dX4_refusal_36 : decode cX4_refusal 36 = .ok (.ireturn, 1) := by decide +kernel
theorem dX4_put_0 : decode cX4_put 0 = .ok (.aload_n 0, 1) := by decide +kernel
theorem dX4_put_1 : decode cX4_put 1 = .ok (.getfield 9, 3) := by decide +kernel
theorem dX4_put_4 : decode cX4_put 4 = .ok (.iload_n 1, 1) := by decide +kernel
theorem dX4_put_5 : decode cX4_put 5 = .ok (.aload_n 0, 1) := by decide +kernel
theorem dX4_put_6 : decode cX4_put 6 = .ok (.getfield 15, 3) := by decide +kernel
theorem dX4_put_9 : decode cX4_put 9 = .ok (.ifCond .ne 8, 3) := by decide +kernel
theorem dX4_put_12 : decode cX4_put 12 = .ok (.iload_n 2, 1) := by decide +kernel
theorem dX4_put_13 : decode cX4_put 13 = .ok (.i2b, 1) := by decide +kernel
theorem dX4_put_14 : decode cX4_put 14 = .ok (.goto 17, 3) := by decide +kernel
theorem dX4_put_17 : decode cX4_put 17 = .ok (.aload_n 0, 1) := by decide +kernel
theorem dX4_put_18 : decode cX4_put 18 = .ok (.getfield 15, 3) := by decide +kernel
theorem dX4_put_21 : decode cX4_put 21 = .ok (.iconst 1, 1) := by decide +kernel
theorem dX4_put_22 : decode cX4_put 22 = .ok (.if_icmp .ne 8, 3) := by decide +kernel
theorem dX4_put_25 : decode cX4_put 25 = .ok (.iload_n 2, 1) := by decide +kernel
theorem dX4_put_26 : decode cX4_put 26 = .ok (.i2s, 1) := by decide +kernel
theorem dX4_put_27 : decode cX4_put 27 = .ok (.goto 4, 3) := by decide +kernel
theorem dX4_put_30 : decode cX4_put 30 = .ok (.iload_n 2, 1) := by decide +kernel
theorem dX4_put_31 : decode cX4_put 31 = .ok (.iastore, 1) := by decide +kernel
theorem dX4_put_32 : decode cX4_put 32 = .ok (.return_, 1) := by decide +kernel
theorem dX5_init_0 : decode cX5_init 0 = .ok (.aload_n 0, 1) := by decide +kernel
theorem dX5_init_1 : decode cX5_init 1 = .ok (.invokespecial 3, 3) := by decide +kernel
theorem dX5_init_4 : decode cX5_init 4 = .ok (.return_, 1) := by decide +kernel
theorem dX5_become_0 : decode cX5_become 0 = .ok (.aload_n 0, 1) := by decide +kernel
theorem dX5_become_1 : decode cX5_become 1 = .ok (.aload_n 1, 1) := by decide +kernel
theorem dX5_become_2 : decode cX5_become 2 = .ok (.getfield 9, 3) := by decide +kernel
theorem dX5_become_5 : decode cX5_become 5 = .ok (.putfield 9, 3) := by decide +kernel
theorem dX5_become_8 : decode cX5_become 8 = .ok (.aload_n 0, 1) := by decide +kernel
theorem dX5_become_9 : decode cX5_become 9 = .ok (.aload_n 1, 1) := by decide +kernel
theorem dX5_become_10 : decode cX5_become 10 = .ok (.getfield 15, 3) := by decide +kernel
theorem dX5_become_13 : decode cX5_become 13 = .ok (.putfield 15, 3) := by decide +kernel
theorem dX5_become_16 : decode cX5_become 16 = .ok (.aload_n 0, 1) := by decide +kernel
theorem dX5_become_17 : decode cX5_become 17 = .ok (.aload_n 1, 1) := by decide +kernel
theorem dX5_become_18 : decode cX5_become 18 = .ok (.getfield 18, 3) := by decide +kernel
theorem dX5_become_21 : decode cX5_become 21 = .ok (.putfield 18, 3) := by decide +kernel
theorem dX5_become_24 : decode cX5_become 24 = .ok (.aload_n 0, 1) := by decide +kernel
theorem dX5_become_25 : decode cX5_become 25 = .ok (.aload_n 1, 1) := by decide +kernel
theorem dX5_become_26 : decode cX5_become 26 = .ok (.getfield 21, 3) := by decide +kernel
theorem dX5_become_29 : decode cX5_become 29 = .ok (.putfield 21, 3) := by decide +kernel
theorem dX5_become_32 : decode cX5_become 32 = .ok (.aload_n 0, 1) := by decide +kernel
theorem dX5_become_33 : decode cX5_become 33 = .ok (.aload_n 1, 1) := by decide +kernel
theorem dX5_become_34 : decode cX5_become 34 = .ok (.getfield 24, 3) := by decide +kernel
theorem dX5_become_37 : decode cX5_become 37 = .ok (.putfield 24, 3) := by decide +kernel
theorem dX5_become_40 : decode cX5_become 40 = .ok (.return_, 1) := by decide +kernel
theorem dX5_wear_0 : decode cX5_wear 0 = .ok (.aload_n 0, 1) := by decide +kernel
theorem dX5_wear_1 : decode cX5_wear 1 = .ok (.getfield 15, 3) := by decide +kernel
theorem dX5_wear_4 : decode cX5_wear 4 = .ok (.iconst 3, 1) := by decide +kernel
theorem dX5_wear_5 : decode cX5_wear 5 = .ok (.if_icmp .ne 7, 3) := by decide +kernel
theorem dX5_wear_8 : decode cX5_wear 8 = .ok (.iconst 2, 1) := by decide +kernel
theorem dX5_wear_9 : decode cX5_wear 9 = .ok (.goto 4, 3) := by decide +kernel
theorem dX5_wear_12 : decode cX5_wear 12 = .ok (.iconst 1, 1) := by decide +kernel
theorem dX5_wear_13 : decode cX5_wear 13 = .ok (.ireturn, 1) := by decide +kernel
theorem dX5_delay_0 : decode cX5_delay 0 = .ok (.aload_n 0, 1) := by decide +kernel
theorem dX5_delay_1 : decode cX5_delay 1 = .ok (.getfield 15, 3) := by decide +kernel
theorem dX5_delay_4 : decode cX5_delay 4 = .ok (.iconst 1, 1) := by decide +kernel
theorem dX5_delay_5 : decode cX5_delay 5 = .ok (.if_icmp .ne 5, 3) := by decide +kernel
theorem dX5_delay_8 : decode cX5_delay 8 = .ok (.iconst (-1), 1) := by decide +kernel
theorem dX5_delay_9 : decode cX5_delay 9 = .ok (.ireturn, 1) := by decide +kernel
theorem dX5_delay_10 : decode cX5_delay 10 = .ok (.aload_n 0, 1) := by decide +kernel
theorem dX5_delay_11 : decode cX5_delay 11 = .ok (.getfield 15, 3) := by decide +kernel
theorem dX5_delay_14 : decode cX5_delay 14 = .ok (.iconst 2, 1) := by decide +kernel
theorem dX5_delay_15 : decode cX5_delay 15 = .ok (.if_icmp .ne 15, 3) := by decide +kernel
theorem dX5_delay_18 : decode cX5_delay 18 = .ok (.iload_n 1, 1) := by decide +kernel
theorem dX5_delay_19 : decode cX5_delay 19 = .ok (.iconst 5, 1) := by decide +kernel
theorem dX5_delay_20 : decode cX5_delay 20 = .ok (.if_icmp .lt 8, 3) := by decide +kernel
theorem dX5_delay_23 : decode cX5_delay 23 = .ok (.bipush (-2), 2) := by decide +kernel
theorem dX5_delay_25 : decode cX5_delay 25 = .ok (.goto 4, 3) := by decide +kernel
theorem dX5_delay_28 : decode cX5_delay 28 = .ok (.iconst 1, 1) := by decide +kernel
theorem dX5_delay_29 : decode cX5_delay 29 = .ok (.ireturn, 1) := by decide +kernel
theorem dX5_delay_30 : decode cX5_delay 30 = .ok (.iconst 0, 1) := by decide +kernel
theorem dX5_delay_31 : decode cX5_delay 31 = .ok (.ireturn, 1) := by decide +kernel
theorem dX5_mark_0 : decode cX5_mark 0 = .ok (.iconst 2, 1) := by decide +kernel
theorem dX5_mark_1 : decode cX5_mark 1 = .ok (.iconst 1, 1) := by decide +kernel
theorem dX5_mark_2 : decode cX5_mark 2 = .ok (.aload_n 0, 1) := by decide +kernel
theorem dX5_mark_3 : decode cX5_mark 3 = .ok (.getfield 15, 3) := by decide +kernel
theorem dX5_mark_6 : decode cX5_mark 6 = .ok (.iadd, 1) := by decide +kernel
theorem dX5_mark_7 : decode cX5_mark 7 = .ok (.imul, 1) := by decide +kernel
theorem dX5_mark_8 : decode cX5_mark 8 = .ok (.aload_n 0, 1) := by decide +kernel
theorem dX5_mark_9 : decode cX5_mark 9 = .ok (.getfield 9, 3) := by decide +kernel
theorem dX5_mark_12 : decode cX5_mark 12 = .ok (.iadd, 1) := by decide +kernel
theorem dX5_mark_13 : decode cX5_mark 13 = .ok (.ireturn, 1) := by decide +kernel
theorem dX6_init_0 : decode cX6_init 0 = .ok (.aload_n 0, 1) := by decide +kernel
theorem dX6_init_1 : decode cX6_init 1 = .ok (.invokespecial 3, 3) := by decide +kernel
theorem dX6_init_4 : decode cX6_init 4 = .ok (.aload_n 0, 1) := by decide +kernel
theorem dX6_init_5 : decode cX6_init 5 = .ok (.bipush 60, 2) := by decide +kernel
theorem dX6_init_7 : decode cX6_init 7 = .ok (.newarray .int, 2) := by decide +kernel
theorem dX6_init_9 : decode cX6_init 9 = .ok (.putfield 9, 3) := by decide +kernel
theorem dX6_init_12 : decode cX6_init 12 = .ok (.return_, 1) := by decide +kernel
set_option maxRecDepth 20000 in
theorem ggX6_isClean_X6_byteOf : GoodIn wsX6_isClean wsX6_byteOf := goodIn_r _ [4, 5] (by decide +kernel) (by decide +kernel)
set_option maxRecDepth 20000 in
theorem gX6_isClean_X6_byteOf : GoodIn wsX6_isClean (va_wsS RX6 15 yX6_byteOf wsX6_byteOf) := goodIn_app (goodIn_of _ (by decide +kernel)) ggX6_isClean_X6_byteOf
set_option maxRecDepth 20000 in
theorem ggX6_isClean_X11_isWithin : GoodIn wsX6_isClean wsX11_isWithin := goodIn_r _ [8] (by decide +kernel) (by decide +kernel)
set_option maxRecDepth 20000 in
theorem gX6_isClean_X11_isWithin_n19 : GoodIn wsX6_isClean (wsX11_isWithin) := ggX6_isClean_X11_isWithin
theorem dX6_isClean_0 : decode cX6_isClean 0 = .ok (.iconst 0, 1) := by decide +kernel
theorem dX6_isClean_1 : decode cX6_isClean 1 = .ok (.istore_n 3, 1) := by decide +kernel
theorem dX6_isClean_2 : decode cX6_isClean 2 = .ok (.iload_n 3, 1) := by decide +kernel
theorem dX6_isClean_3 : decode cX6_isClean 3 = .ok (.iload_n 2, 1) := by decide +kernel
theorem dX6_isClean_4 : decode cX6_isClean 4 = .ok (.if_icmp .ge 26, 3) := by decide +kernel
theorem dX6_isClean_7 : decode cX6_isClean 7 = .ok (.lload_n 0, 1) := by decide +kernel
theorem dX6_isClean_8 : decode cX6_isClean 8 = .ok (.iload_n 3, 1) := by decide +kernel
theorem dX6_isClean_9 : decode cX6_isClean 9 = .ok (.invokestatic 15, 3) := by decide +kernel
theorem dX6_isClean_12 : decode cX6_isClean 12 = .ok (.bipush 32, 2) := by decide +kernel
theorem dX6_isClean_14 : decode cX6_isClean 14 = .ok (.bipush 126, 2) := by decide +kernel
theorem dX6_isClean_16 : decode cX6_isClean 16 = .ok (.invokestatic 19, 3) := by decide +kernel
theorem dX6_isClean_19 : decode cX6_isClean 19 = .ok (.ifCond .ne 5, 3) := by decide +kernel
theorem dX6_isClean_22 : decode cX6_isClean 22 = .ok (.iconst 0, 1) := by decide +kernel
theorem dX6_isClean_23 : decode cX6_isClean 23 = .ok (.ireturn, 1) := by decide +kernel
theorem dX6_isClean_24 : decode cX6_isClean 24 = .ok (.iinc 3 1, 3) := by decide +kernel
theorem dX6_isClean_27 : decode cX6_isClean 27 = .ok (.goto (-25), 3) := by decide +kernel
theorem dX6_isClean_30 : decode cX6_isClean 30 = .ok (.iconst 1, 1) := by decide +kernel
theorem dX6_isClean_31 : decode cX6_isClean 31 = .ok (.ireturn, 1) := by decide +kernel
theorem dX6_byteOf_0 : decode cX6_byteOf 0 = .ok (.lload_n 0, 1) := by decide +kernel
theorem dX6_byteOf_1 : decode cX6_byteOf 1 = .ok (.bipush 8, 2) := by decide +kernel
theorem dX6_byteOf_3 : decode cX6_byteOf 3 = .ok (.iload_n 2, 1) := by decide +kernel
theorem dX6_byteOf_4 : decode cX6_byteOf 4 = .ok (.imul, 1) := by decide +kernel
theorem dX6_byteOf_5 : decode cX6_byteOf 5 = .ok (.lushr, 1) := by decide +kernel
theorem dX6_byteOf_6 : decode cX6_byteOf 6 = .ok (.ldc2_w 23, 3) := by decide +kernel
theorem dX6_byteOf_9 : decode cX6_byteOf 9 = .ok (.land, 1) := by decide +kernel
theorem dX6_byteOf_10 : decode cX6_byteOf 10 = .ok (.l2i, 1) := by decide +kernel
theorem dX6_byteOf_11 : decode cX6_byteOf 11 = .ok (.ireturn, 1) := by decide +kernel
set_option maxRecDepth 20000 in
theorem ggX6_append_X6_byteOf : GoodIn wsX6_append wsX6_byteOf := goodIn_r _ [6, 7] (by decide +kernel) (by decide +kernel)
set_option maxRecDepth 20000 in
theorem gX6_append_X6_byteOf : GoodIn wsX6_append (va_wsS RX6 15 yX6_byteOf wsX6_byteOf) := goodIn_app (goodIn_of _ (by decide +kernel)) ggX6_append_X6_byteOf
theorem dX6_append_0 : decode cX6_append 0 = .ok (.aload_n 0, 1) := by decide +kernel
theorem dX6_append_1 : decode cX6_append 1 = .ok (.getfield 25, 3) := by decide +kernel
theorem dX6_append_4 : decode cX6_append 4 = .ok (.iload_n 3, 1) := by decide +kernel
theorem dX6_append_5 : decode cX6_append 5 = .ok (.iadd, 1) := by decide +kernel
theorem dX6_append_6 : decode cX6_append 6 = .ok (.bipush 60, 2) := by decide +kernel
theorem dX6_append_8 : decode cX6_append 8 = .ok (.if_icmp .le 6, 3) := by decide +kernel
theorem dX6_append_11 : decode cX6_append 11 = .ok (.bipush (-3), 2) := by decide +kernel
theorem dX6_append_13 : decode cX6_append 13 = .ok (.ireturn, 1) := by decide +kernel
theorem dX6_append_14 : decode cX6_append 14 = .ok (.iload_n 3, 1) := by decide +kernel
theorem dX6_append_15 : decode cX6_append 15 = .ok (.iconst 1, 1) := by decide +kernel
theorem dX6_append_16 : decode cX6_append 16 = .ok (.isub, 1) := by decide +kernel
theorem dX6_append_17 : decode cX6_append 17 = .ok (.istore 4, 2) := by decide +kernel
theorem dX6_append_19 : decode cX6_append 19 = .ok (.iload 4, 2) := by decide +kernel
theorem dX6_append_21 : decode cX6_append 21 = .ok (.ifCond .lt 34, 3) := by decide +kernel
theorem dX6_append_24 : decode cX6_append 24 = .ok (.aload_n 0, 1) := by decide +kernel
theorem dX6_append_25 : decode cX6_append 25 = .ok (.getfield 9, 3) := by decide +kernel
theorem dX6_append_28 : decode cX6_append 28 = .ok (.aload_n 0, 1) := by decide +kernel
theorem dX6_append_29 : decode cX6_append 29 = .ok (.getfield 25, 3) := by decide +kernel
theorem dX6_append_32 : decode cX6_append 32 = .ok (.lload_n 1, 1) := by decide +kernel
theorem dX6_append_33 : decode cX6_append 33 = .ok (.iload 4, 2) := by decide +kernel
theorem dX6_append_35 : decode cX6_append 35 = .ok (.invokestatic 15, 3) := by decide +kernel
theorem dX6_append_38 : decode cX6_append 38 = .ok (.iastore, 1) := by decide +kernel
theorem dX6_append_39 : decode cX6_append 39 = .ok (.aload_n 0, 1) := by decide +kernel
theorem dX6_append_40 : decode cX6_append 40 = .ok (.dup, 1) := by decide +kernel
theorem dX6_append_41 : decode cX6_append 41 = .ok (.getfield 25, 3) := by decide +kernel
theorem dX6_append_44 : decode cX6_append 44 = .ok (.iconst 1, 1) := by decide +kernel
theorem dX6_append_45 : decode cX6_append 45 = .ok (.iadd, 1) := by decide +kernel
theorem dX6_append_46 : decode cX6_append 46 = .ok (.putfield 25, 3) := by decide +kernel
theorem dX6_append_49 : decode cX6_append 49 = .ok (.iinc 4 (-1), 3) := by decide +kernel
theorem dX6_append_52 : decode cX6_append 52 = .ok (.goto (-33), 3) := by decide +kernel
theorem dX6_append_55 : decode cX6_append 55 = .ok (.aload_n 0, 1) := by decide +kernel
theorem dX6_append_56 : decode cX6_append 56 = .ok (.getfield 25, 3) := by decide +kernel
theorem dX6_append_59 : decode cX6_append 59 = .ok (.ireturn, 1) := by decide +kernel
theorem dX6_clear_0 : decode cX6_clear 0 = .ok (.aload_n 0, 1) := by decide +kernel
theorem dX6_clear_1 : decode cX6_clear 1 = .ok (.iconst 0, 1) := by decide +kernel
theorem dX6_clear_2 : decode cX6_clear 2 = .ok (.putfield 25, 3) := by decide +kernel
theorem dX6_clear_5 : decode cX6_clear 5 = .ok (.return_, 1) := by decide +kernel
set_option maxRecDepth 20000 in
theorem ggX6_readTax_X6_look : GoodIn wsX6_readTax wsX6_look := goodIn_r _ [8, 1, 9, 10, 37, 38, 39] (by decide +kernel) (by decide +kernel)
set_option maxRecDepth 20000 in
theorem gX6_readTax_X6_look : GoodIn wsX6_readTax (wsV RX6 32 RX6 yX6_look wsX6_look) := goodIn_app (goodIn_of _ (by decide +kernel)) ggX6_readTax_X6_look
set_option maxRecDepth 20000 in
theorem ggX6_readTax_X6_readRates : GoodIn wsX6_readTax wsX6_readRates := goodIn_r _ [14, 1, 15, 4, 5, 6, 7, 8, 9, 10, 16, 17, 18, 19, 20, 21, 22, 23, 24, 25, 26, 27, 28, 37, 38, 39, 40, 41, 42] (by decide +kernel) (by decide +kernel)
set_option maxRecDepth 20000 in
theorem gX6_readTax_X6_readRates : GoodIn wsX6_readTax (wsV RX6 41 RX6 yX6_readRates wsX6_readRates) := goodIn_app (goodIn_of _ (by decide +kernel)) ggX6_readTax_X6_readRates
set_option maxRecDepth 20000 in
theorem ggX6_readTax_X6_readNumber : GoodIn wsX6_readTax wsX6_readNumber := goodIn_r _ [32, 1, 9, 10, 33, 34, 35, 36, 4, 5, 6, 7, 8, 23, 24, 25, 26, 27, 28, 37, 38, 39] (by decide +kernel) (by decide +kernel)
set_option maxRecDepth 20000 in
theorem gX6_readTax_X6_readNumber : GoodIn wsX6_readTax (wsV RX6 45 RX6 yX6_readNumber wsX6_readNumber) := goodIn_app (goodIn_of _ (by decide +kernel)) ggX6_readTax_X6_readNumber
theorem dX6_readTax_0 : decode cX6_readTax 0 = .ok (.aload_n 0, 1) := by decide +kernel
theorem dX6_readTax_1 : decode cX6_readTax 1 = .ok (.iconst 0, 1) := by decide +kernel
theorem dX6_readTax_2 : decode cX6_readTax 2 = .ok (.putfield 29, 3) := by decide +kernel
theorem dX6_readTax_5 : decode cX6_readTax 5 = .ok (.aload_n 0, 1) := by decide +kernel
theorem dX6_readTax_6 : decode cX6_readTax 6 = .ok (.invokevirtual 32, 3) := by decide +kernel
theorem dX6_readTax_9 : decode cX6_readTax 9 = .ok (.istore_n 2, 1) := by decide +kernel
theorem dX6_readTax_10 : decode cX6_readTax 10 = .ok (.iload_n 2, 1) := by decide +kernel
theorem dX6_readTax_11 : decode cX6_readTax 11 = .ok (.bipush 108, 2) := by decide +kernel
theorem dX6_readTax_13 : decode cX6_readTax 13 = .ok (.if_icmp .eq 9, 3) := by decide +kernel
theorem dX6_readTax_16 : decode cX6_readTax 16 = .ok (.iload_n 2, 1) := by decide +kernel
theorem dX6_readTax_17 : decode cX6_readTax 17 = .ok (.bipush 114, 2) := by decide +kernel
theorem dX6_readTax_19 : decode cX6_readTax 19 = .ok (.if_icmp .ne 28, 3) := by decide +kernel
theorem dX6_readTax_22 : decode cX6_readTax 22 = .ok (.aload_n 1, 1) := by decide +kernel
theorem dX6_readTax_23 : decode cX6_readTax 23 = .ok (.iload_n 2, 1) := by decide +kernel
theorem dX6_readTax_24 : decode cX6_readTax 24 = .ok (.bipush 108, 2) := by decide +kernel
theorem dX6_readTax_26 : decode cX6_readTax 26 = .ok (.if_icmp .ne 7, 3) := by decide +kernel
theorem dX6_readTax_29 : decode cX6_readTax 29 = .ok (.iconst 0, 1) := by decide +kernel
theorem dX6_readTax_30 : decode cX6_readTax 30 = .ok (.goto 4, 3) := by decide +kernel
theorem dX6_readTax_33 : decode cX6_readTax 33 = .ok (.iconst 1, 1) := by decide +kernel
theorem dX6_readTax_34 : decode cX6_readTax 34 = .ok (.putfield 36, 3) := by decide +kernel
theorem dX6_readTax_37 : decode cX6_readTax 37 = .ok (.aload_n 0, 1) := by decide +kernel
theorem dX6_readTax_38 : decode cX6_readTax 38 = .ok (.dup, 1) := by decide +kernel
theorem dX6_readTax_39 : decode cX6_readTax 39 = .ok (.getfield 29, 3) := by decide +kernel
theorem dX6_readTax_42 : decode cX6_readTax 42 = .ok (.iconst 1, 1) := by decide +kernel
theorem dX6_readTax_43 : decode cX6_readTax 43 = .ok (.iadd, 1) := by decide +kernel
theorem dX6_readTax_44 : decode cX6_readTax 44 = .ok (.putfield 29, 3) := by decide +kernel
theorem dX6_readTax_47 : decode cX6_readTax 47 = .ok (.aload_n 0, 1) := by decide +kernel
theorem dX6_readTax_48 : decode cX6_readTax 48 = .ok (.aload_n 1, 1) := by decide +kernel
theorem dX6_readTax_49 : decode cX6_readTax 49 = .ok (.invokevirtual 41, 3) := by decide +kernel
theorem dX6_readTax_52 : decode cX6_readTax 52 = .ok (.istore_n 3, 1) := by decide +kernel
theorem dX6_readTax_53 : decode cX6_readTax 53 = .ok (.iload_n 3, 1) := by decide +kernel
theorem dX6_readTax_54 : decode cX6_readTax 54 = .ok (.ifCond .ne 11, 3) := by decide +kernel
theorem dX6_readTax_57 : decode cX6_readTax 57 = .ok (.bipush (-20), 2) := by decide +kernel
theorem dX6_readTax_59 : decode cX6_readTax 59 = .ok (.aload_n 0, 1) := by decide +kernel
theorem dX6_readTax_60 : decode cX6_readTax 60 = .ok (.getfield 29, 3) := by decide +kernel
theorem dX6_readTax_63 : decode cX6_readTax 63 = .ok (.isub, 1) := by decide +kernel
theorem dX6_readTax_64 : decode cX6_readTax 64 = .ok (.ireturn, 1) := by decide +kernel
theorem dX6_readTax_65 : decode cX6_readTax 65 = .ok (.aload_n 0, 1) := by decide +kernel
theorem dX6_readTax_66 : decode cX6_readTax 66 = .ok (.invokevirtual 32, 3) := by decide +kernel
theorem dX6_readTax_69 : decode cX6_readTax 69 = .ok (.bipush 102, 2) := by decide +kernel
theorem dX6_readTax_71 : decode cX6_readTax 71 = .ok (.if_icmp .ne 38, 3) := by decide +kernel
theorem dX6_readTax_74 : decode cX6_readTax 74 = .ok (.aload_n 0, 1) := by decide +kernel
theorem dX6_readTax_75 : decode cX6_readTax 75 = .ok (.dup, 1) := by decide +kernel
theorem dX6_readTax_76 : decode cX6_readTax 76 = .ok (.getfield 29, 3) := by decide +kernel
theorem dX6_readTax_79 : decode cX6_readTax 79 = .ok (.iconst 1, 1) := by decide +kernel
theorem dX6_readTax_80 : decode cX6_readTax 80 = .ok (.iadd, 1) := by decide +kernel
theorem dX6_readTax_81 : decode cX6_readTax 81 = .ok (.putfield 29, 3) := by decide +kernel
theorem dX6_readTax_84 : decode cX6_readTax 84 = .ok (.aload_n 1, 1) := by decide +kernel
theorem dX6_readTax_85 : decode cX6_readTax 85 = .ok (.aload_n 0, 1) := by decide +kernel
theorem dX6_readTax_86 : decode cX6_readTax 86 = .ok (.bipush 99, 2) := by decide +kernel
theorem dX6_readTax_88 : decode cX6_readTax 88 = .ok (.invokevirtual 45, 3) := by decide +kernel
theorem dX6_readTax_91 : decode cX6_readTax 91 = .ok (.putfield 49, 3) := by decide +kernel
theorem dX6_readTax_94 : decode cX6_readTax 94 = .ok (.aload_n 1, 1) := by decide +kernel
theorem dX6_readTax_95 : decode cX6_readTax 95 = .ok (.getfield 49, 3) := by decide +kernel
theorem dX6_readTax_98 : decode cX6_readTax 98 = .ok (.ifCond .ge 11, 3) := by decide +kernel
theorem dX6_readTax_101 : decode cX6_readTax 101 = .ok (.bipush (-20), 2) := by decide +kernel
theorem dX6_readTax_103 : decode cX6_readTax 103 = .ok (.aload_n 0, 1) := by decide +kernel
theorem dX6_readTax_104 : decode cX6_readTax 104 = .ok (.getfield 29, 3) := by decide +kernel
theorem dX6_readTax_107 : decode cX6_readTax 107 = .ok (.isub, 1) := by decide +kernel
theorem dX6_readTax_108 : decode cX6_readTax 108 = .ok (.ireturn, 1) := by decide +kernel
theorem dX6_readTax_109 : decode cX6_readTax 109 = .ok (.aload_n 0, 1) := by decide +kernel
theorem dX6_readTax_110 : decode cX6_readTax 110 = .ok (.invokevirtual 32, 3) := by decide +kernel
theorem dX6_readTax_113 : decode cX6_readTax 113 = .ok (.iconst (-1), 1) := by decide +kernel
theorem dX6_readTax_114 : decode cX6_readTax 114 = .ok (.if_icmp .ne 7, 3) := by decide +kernel
theorem dX6_readTax_117 : decode cX6_readTax 117 = .ok (.iload_n 3, 1) := by decide +kernel
theorem dX6_readTax_118 : decode cX6_readTax 118 = .ok (.goto 10, 3) := by decide +kernel
theorem dX6_readTax_121 : decode cX6_readTax 121 = .ok (.bipush (-20), 2) := by decide +kernel
theorem dX6_readTax_123 : decode cX6_readTax 123 = .ok (.aload_n 0, 1) := by decide +kernel
theorem dX6_readTax_124 : decode cX6_readTax 124 = .ok (.getfield 29, 3) := by decide +kernel
theorem dX6_readTax_127 : decode cX6_readTax 127 = .ok (.isub, 1) := by decide +kernel
theorem dX6_readTax_128 : decode cX6_readTax 128 = .ok (.ireturn, 1) := by decide +kernel
set_option maxRecDepth 20000 in
theorem ggX6_readRates_X6_look : GoodIn wsX6_readRates wsX6_look := goodIn_r _ [7, 1, 8, 9, 23, 24, 25] (by decide +kernel) (by decide +kernel)
set_option maxRecDepth 20000 in
theorem gX6_readRates_X6_look : GoodIn wsX6_readRates (wsV RX6 32 RX6 yX6_look wsX6_look) := goodIn_app (goodIn_of _ (by decide +kernel)) ggX6_readRates_X6_look
set_option maxRecDepth 20000 in
theorem ggX6_readRates_X6_sortOf : GoodIn wsX6_readRates wsX6_sortOf := goodIn_r _ [12] (by decide +kernel) (by decide +kernel)
set_option maxRecDepth 20000 in
theorem gX6_readRates_X6_sortOf : GoodIn wsX6_readRates (va_wsS RX6 52 yX6_sortOf wsX6_sortOf) := goodIn_app (goodIn_of _ (by decide +kernel)) ggX6_readRates_X6_sortOf
set_option maxRecDepth 20000 in
theorem ggX6_readRates_X6_readDigit : GoodIn wsX6_readRates wsX6_readDigit := goodIn_r _ [16, 1, 3, 4, 5, 6, 7, 8, 9, 17, 18, 19, 20, 21, 22, 23, 24, 25] (by decide +kernel) (by decide +kernel)
set_option maxRecDepth 20000 in
theorem gX6_readRates_X6_readDigit : GoodIn wsX6_readRates (wsV RX6 55 RX6 yX6_readDigit wsX6_readDigit) := goodIn_app (goodIn_of _ (by decide +kernel)) ggX6_readRates_X6_readDigit
theorem dX6_readRates_0 : decode cX6_readRates 0 = .ok (.iconst 0, 1) := by decide +kernel
theorem dX6_readRates_1 : decode cX6_readRates 1 = .ok (.istore_n 2, 1) := by decide +kernel
theorem dX6_readRates_2 : decode cX6_readRates 2 = .ok (.iconst 0, 1) := by decide +kernel
theorem dX6_readRates_3 : decode cX6_readRates 3 = .ok (.istore_n 3, 1) := by decide +kernel
theorem dX6_readRates_4 : decode cX6_readRates 4 = .ok (.iload_n 3, 1) := by decide +kernel
theorem dX6_readRates_5 : decode cX6_readRates 5 = .ok (.iconst 4, 1) := by decide +kernel
theorem dX6_readRates_6 : decode cX6_readRates 6 = .ok (.if_icmp .ge 74, 3) := by decide +kernel
theorem dX6_readRates_9 : decode cX6_readRates 9 = .ok (.aload_n 0, 1) := by decide +kernel
theorem dX6_readRates_10 : decode cX6_readRates 10 = .ok (.invokevirtual 32, 3) := by decide +kernel
theorem dX6_readRates_13 : decode cX6_readRates 13 = .ok (.invokestatic 52, 3) := by decide +kernel
theorem dX6_readRates_16 : decode cX6_readRates 16 = .ok (.istore 4, 2) := by decide +kernel
theorem dX6_readRates_18 : decode cX6_readRates 18 = .ok (.iload 4, 2) := by decide +kernel
theorem dX6_readRates_20 : decode cX6_readRates 20 = .ok (.ifCond .lt 13, 3) := by decide +kernel
theorem dX6_readRates_23 : decode cX6_readRates 23 = .ok (.iload_n 2, 1) := by decide +kernel
theorem dX6_readRates_24 : decode cX6_readRates 24 = .ok (.iload 4, 2) := by decide +kernel
theorem dX6_readRates_26 : decode cX6_readRates 26 = .ok (.ishr, 1) := by decide +kernel
theorem dX6_readRates_27 : decode cX6_readRates 27 = .ok (.iconst 1, 1) := by decide +kernel
theorem dX6_readRates_28 : decode cX6_readRates 28 = .ok (.iand, 1) := by decide +kernel
theorem dX6_readRates_29 : decode cX6_readRates 29 = .ok (.iconst 1, 1) := by decide +kernel
theorem dX6_readRates_30 : decode cX6_readRates 30 = .ok (.if_icmp .ne 5, 3) := by decide +kernel
theorem dX6_readRates_33 : decode cX6_readRates 33 = .ok (.iload_n 3, 1) := by decide +kernel
theorem dX6_readRates_34 : decode cX6_readRates 34 = .ok (.ireturn, 1) := by decide +kernel
theorem dX6_readRates_35 : decode cX6_readRates 35 = .ok (.iload_n 2, 1) := by decide +kernel
theorem dX6_readRates_36 : decode cX6_readRates 36 = .ok (.iconst 1, 1) := by decide +kernel
theorem dX6_readRates_37 : decode cX6_readRates 37 = .ok (.iload 4, 2) := by decide +kernel
theorem dX6_readRates_39 : decode cX6_readRates 39 = .ok (.ishl, 1) := by decide +kernel
theorem dX6_readRates_40 : decode cX6_readRates 40 = .ok (.ior, 1) := by decide +kernel
theorem dX6_readRates_41 : decode cX6_readRates 41 = .ok (.istore_n 2, 1) := by decide +kernel
theorem dX6_readRates_42 : decode cX6_readRates 42 = .ok (.aload_n 0, 1) := by decide +kernel
theorem dX6_readRates_43 : decode cX6_readRates 43 = .ok (.dup, 1) := by decide +kernel
theorem dX6_readRates_44 : decode cX6_readRates 44 = .ok (.getfield 29, 3) := by decide +kernel
theorem dX6_readRates_47 : decode cX6_readRates 47 = .ok (.iconst 1, 1) := by decide +kernel
theorem dX6_readRates_48 : decode cX6_readRates 48 = .ok (.iadd, 1) := by decide +kernel
theorem dX6_readRates_49 : decode cX6_readRates 49 = .ok (.putfield 29, 3) := by decide +kernel
theorem dX6_readRates_52 : decode cX6_readRates 52 = .ok (.aload_n 0, 1) := by decide +kernel
theorem dX6_readRates_53 : decode cX6_readRates 53 = .ok (.invokevirtual 55, 3) := by decide +kernel
theorem dX6_readRates_56 : decode cX6_readRates 56 = .ok (.istore 5, 2) := by decide +kernel
theorem dX6_readRates_58 : decode cX6_readRates 58 = .ok (.iload 5, 2) := by decide +kernel
theorem dX6_readRates_60 : decode cX6_readRates 60 = .ok (.ifCond .ge 5, 3) := by decide +kernel
theorem dX6_readRates_63 : decode cX6_readRates 63 = .ok (.iconst 0, 1) := by decide +kernel
theorem dX6_readRates_64 : decode cX6_readRates 64 = .ok (.ireturn, 1) := by decide +kernel
theorem dX6_readRates_65 : decode cX6_readRates 65 = .ok (.aload_n 1, 1) := by decide +kernel
theorem dX6_readRates_66 : decode cX6_readRates 66 = .ok (.getfield 58, 3) := by decide +kernel
theorem dX6_readRates_69 : decode cX6_readRates 69 = .ok (.iload 4, 2) := by decide +kernel
theorem dX6_readRates_71 : decode cX6_readRates 71 = .ok (.iload 5, 2) := by decide +kernel
theorem dX6_readRates_73 : decode cX6_readRates 73 = .ok (.iastore, 1) := by decide +kernel
theorem dX6_readRates_74 : decode cX6_readRates 74 = .ok (.iinc 3 1, 3) := by decide +kernel
theorem dX6_readRates_77 : decode cX6_readRates 77 = .ok (.goto (-73), 3) := by decide +kernel
theorem dX6_readRates_80 : decode cX6_readRates 80 = .ok (.iconst 4, 1) := by decide +kernel
theorem dX6_readRates_81 : decode cX6_readRates 81 = .ok (.ireturn, 1) := by decide +kernel
theorem dX6_sortOf_0 : decode cX6_sortOf 0 = .ok (.iload_n 0, 1) := by decide +kernel
theorem dX6_sortOf_1 : decode cX6_sortOf 1 = .ok (.lookupswitch 51 #[(99, 47), (107, 49), (112, 43), (115, 45)], 43) := by decide +kernel
theorem dX6_sortOf_44 : decode cX6_sortOf 44 = .ok (.iconst 0, 1) := by decide +kernel
theorem dX6_sortOf_45 : decode cX6_sortOf 45 = .ok (.ireturn, 1) := by decide +kernel
theorem dX6_sortOf_46 : decode cX6_sortOf 46 = .ok (.iconst 1, 1) := by decide +kernel
theorem dX6_sortOf_47 : decode cX6_sortOf 47 = .ok (.ireturn, 1) := by decide +kernel
theorem dX6_sortOf_48 : decode cX6_sortOf 48 = .ok (.iconst 2, 1) := by decide +kernel
theorem dX6_sortOf_49 : decode cX6_sortOf 49 = .ok (.ireturn, 1) := by decide +kernel
theorem dX6_sortOf_50 : decode cX6_sortOf 50 = .ok (.iconst 3, 1) := by decide +kernel
theorem dX6_sortOf_51 : decode cX6_sortOf 51 = .ok (.ireturn, 1) := by decide +kernel
theorem dX6_sortOf_52 : decode cX6_sortOf 52 = .ok (.iconst (-1), 1) := by decide +kernel
theorem dX6_sortOf_53 : decode cX6_sortOf 53 = .ok (.ireturn, 1) := by decide +kernel
set_option maxRecDepth 20000 in
theorem ggX6_readRoad_X6_look : GoodIn wsX6_readRoad wsX6_look := goodIn_r _ [6, 1, 7, 8, 39, 40, 41] (by decide +kernel) (by decide +kernel)
set_option maxRecDepth 20000 in
theorem gX6_readRoad_X6_look : GoodIn wsX6_readRoad (wsV RX6 32 RX6 yX6_look wsX6_look) := goodIn_app (goodIn_of _ (by decide +kernel)) ggX6_readRoad_X6_look
set_option maxRecDepth 20000 in
theorem ggX6_readRoad_X6_readMile : GoodIn wsX6_readRoad wsX6_readMile := goodIn_r _ [12, 13, 14, 1, 15, 16, 17, 5, 18, 2, 3, 4, 6, 7, 8, 19, 20, 21, 22, 23, 24, 25, 26, 27, 28, 29, 30, 31, 32, 42, 43, 39, 40, 41] (by decide +kernel) (by decide +kernel)
set_option maxRecDepth 20000 in
theorem gX6_readRoad_X6_readMile : GoodIn wsX6_readRoad (wsV RX6 61 RX6 yX6_readMile wsX6_readMile) := goodIn_app (goodIn_of _ (by decide +kernel)) ggX6_readRoad_X6_readMile
set_option maxRecDepth 20000 in
theorem ggX6_readRoad_X3_allMud : GoodIn wsX6_readRoad wsX3_allMud := goodIn_r _ [37, 38, 42, 43] (by decide +kernel) (by decide +kernel)
set_option maxRecDepth 20000 in
theorem gX6_readRoad_X3_allMud : GoodIn wsX6_readRoad (wsV RX6 65 RX3 yX3_allMud wsX3_allMud) := goodIn_app (goodIn_of _ (by decide +kernel)) ggX6_readRoad_X3_allMud
theorem dX6_readRoad_0 : decode cX6_readRoad 0 = .ok (.aload_n 0, 1) := by decide +kernel
theorem dX6_readRoad_1 : decode cX6_readRoad 1 = .ok (.iconst 0, 1) := by decide +kernel
theorem dX6_readRoad_2 : decode cX6_readRoad 2 = .ok (.putfield 29, 3) := by decide +kernel
theorem dX6_readRoad_5 : decode cX6_readRoad 5 = .ok (.iconst 0, 1) := by decide +kernel
theorem dX6_readRoad_6 : decode cX6_readRoad 6 = .ok (.istore_n 2, 1) := by decide +kernel
theorem dX6_readRoad_7 : decode cX6_readRoad 7 = .ok (.iload_n 2, 1) := by decide +kernel
theorem dX6_readRoad_8 : decode cX6_readRoad 8 = .ok (.bipush 9, 2) := by decide +kernel
theorem dX6_readRoad_10 : decode cX6_readRoad 10 = .ok (.if_icmp .ge 57, 3) := by decide +kernel
theorem dX6_readRoad_13 : decode cX6_readRoad 13 = .ok (.iload_n 2, 1) := by decide +kernel
theorem dX6_readRoad_14 : decode cX6_readRoad 14 = .ok (.ifCond .le 30, 3) := by decide +kernel
theorem dX6_readRoad_17 : decode cX6_readRoad 17 = .ok (.aload_n 0, 1) := by decide +kernel
theorem dX6_readRoad_18 : decode cX6_readRoad 18 = .ok (.invokevirtual 32, 3) := by decide +kernel
theorem dX6_readRoad_21 : decode cX6_readRoad 21 = .ok (.bipush 44, 2) := by decide +kernel
theorem dX6_readRoad_23 : decode cX6_readRoad 23 = .ok (.if_icmp .eq 11, 3) := by decide +kernel
theorem dX6_readRoad_26 : decode cX6_readRoad 26 = .ok (.bipush (-20), 2) := by decide +kernel
theorem dX6_readRoad_28 : decode cX6_readRoad 28 = .ok (.aload_n 0, 1) := by decide +kernel
theorem dX6_readRoad_29 : decode cX6_readRoad 29 = .ok (.getfield 29, 3) := by decide +kernel
theorem dX6_readRoad_32 : decode cX6_readRoad 32 = .ok (.isub, 1) := by decide +kernel
theorem dX6_readRoad_33 : decode cX6_readRoad 33 = .ok (.ireturn, 1) := by decide +kernel
theorem dX6_readRoad_34 : decode cX6_readRoad 34 = .ok (.aload_n 0, 1) := by decide +kernel
theorem dX6_readRoad_35 : decode cX6_readRoad 35 = .ok (.dup, 1) := by decide +kernel
theorem dX6_readRoad_36 : decode cX6_readRoad 36 = .ok (.getfield 29, 3) := by decide +kernel
theorem dX6_readRoad_39 : decode cX6_readRoad 39 = .ok (.iconst 1, 1) := by decide +kernel
theorem dX6_readRoad_40 : decode cX6_readRoad 40 = .ok (.iadd, 1) := by decide +kernel
theorem dX6_readRoad_41 : decode cX6_readRoad 41 = .ok (.putfield 29, 3) := by decide +kernel
theorem dX6_readRoad_44 : decode cX6_readRoad 44 = .ok (.aload_n 0, 1) := by decide +kernel
theorem dX6_readRoad_45 : decode cX6_readRoad 45 = .ok (.aload_n 1, 1) := by decide +kernel
theorem dX6_readRoad_46 : decode cX6_readRoad 46 = .ok (.iload_n 2, 1) := by decide +kernel
theorem dX6_readRoad_47 : decode cX6_readRoad 47 = .ok (.invokevirtual 61, 3) := by decide +kernel
theorem dX6_readRoad_50 : decode cX6_readRoad 50 = .ok (.ifCond .ne 11, 3) := by decide +kernel
theorem dX6_readRoad_53 : decode cX6_readRoad 53 = .ok (.bipush (-20), 2) := by decide +kernel
theorem dX6_readRoad_55 : decode cX6_readRoad 55 = .ok (.aload_n 0, 1) := by decide +kernel
theorem dX6_readRoad_56 : decode cX6_readRoad 56 = .ok (.getfield 29, 3) := by decide +kernel
theorem dX6_readRoad_59 : decode cX6_readRoad 59 = .ok (.isub, 1) := by decide +kernel
theorem dX6_readRoad_60 : decode cX6_readRoad 60 = .ok (.ireturn, 1) := by decide +kernel
theorem dX6_readRoad_61 : decode cX6_readRoad 61 = .ok (.iinc 2 1, 3) := by decide +kernel
theorem dX6_readRoad_64 : decode cX6_readRoad 64 = .ok (.goto (-57), 3) := by decide +kernel
theorem dX6_readRoad_67 : decode cX6_readRoad 67 = .ok (.aload_n 0, 1) := by decide +kernel
theorem dX6_readRoad_68 : decode cX6_readRoad 68 = .ok (.invokevirtual 32, 3) := by decide +kernel
theorem dX6_readRoad_71 : decode cX6_readRoad 71 = .ok (.iconst (-1), 1) := by decide +kernel
theorem dX6_readRoad_72 : decode cX6_readRoad 72 = .ok (.if_icmp .ne 10, 3) := by decide +kernel
theorem dX6_readRoad_75 : decode cX6_readRoad 75 = .ok (.aload_n 1, 1) := by decide +kernel
theorem dX6_readRoad_76 : decode cX6_readRoad 76 = .ok (.invokevirtual 65, 3) := by decide +kernel
theorem dX6_readRoad_79 : decode cX6_readRoad 79 = .ok (.goto 10, 3) := by decide +kernel
theorem dX6_readRoad_82 : decode cX6_readRoad 82 = .ok (.bipush (-20), 2) := by decide +kernel
theorem dX6_readRoad_84 : decode cX6_readRoad 84 = .ok (.aload_n 0, 1) := by decide +kernel
theorem dX6_readRoad_85 : decode cX6_readRoad 85 = .ok (.getfield 29, 3) := by decide +kernel
theorem dX6_readRoad_88 : decode cX6_readRoad 88 = .ok (.isub, 1) := by decide +kernel
theorem dX6_readRoad_89 : decode cX6_readRoad 89 = .ok (.ireturn, 1) := by decide +kernel
set_option maxRecDepth 20000 in
theorem ggX6_readMile_X6_readDigit : GoodIn wsX6_readMile wsX6_readDigit := goodIn_r _ [8, 3, 9, 10, 11, 7, 12, 13, 14, 15, 16, 17, 18, 19, 20, 31, 32, 33] (by decide +kernel) (by decide +kernel)
set_option maxRecDepth 20000 in
theorem gX6_readMile_X6_readDigit : GoodIn wsX6_readMile (wsV RX6 55 RX6 yX6_readDigit wsX6_readDigit) := goodIn_app (goodIn_of _ (by decide +kernel)) ggX6_readMile_X6_readDigit
set_option maxRecDepth 20000 in
theorem ggX6_readMile_X6_look : GoodIn wsX6_readMile wsX6_look := goodIn_r _ [12, 3, 13, 14, 31, 32, 33] (by decide +kernel) (by decide +kernel)
set_option maxRecDepth 20000 in
theorem gX6_readMile_X6_look : GoodIn wsX6_readMile (wsV RX6 32 RX6 yX6_look wsX6_look) := goodIn_app (goodIn_of _ (by decide +kernel)) ggX6_readMile_X6_look
set_option maxRecDepth 20000 in
theorem ggX6_readMile_X6_readNumber : GoodIn wsX6_readMile wsX6_readNumber := goodIn_r _ [24, 3, 13, 14, 25, 26, 27, 28, 9, 10, 11, 7, 12, 15, 16, 17, 18, 19, 20, 31, 32, 33] (by decide +kernel) (by decide +kernel)
set_option maxRecDepth 20000 in
theorem gX6_readMile_X6_readNumber : GoodIn wsX6_readMile (wsV RX6 45 RX6 yX6_readNumber wsX6_readNumber) := goodIn_app (goodIn_of _ (by decide +kernel)) ggX6_readMile_X6_readNumber
theorem dX6_readMile_0 : decode cX6_readMile 0 = .ok (.aload_n 1, 1) := by decide +kernel
theorem dX6_readMile_1 : decode cX6_readMile 1 = .ok (.getfield 70, 3) := by decide +kernel
theorem dX6_readMile_4 : decode cX6_readMile 4 = .ok (.iload_n 2, 1) := by decide +kernel
theorem dX6_readMile_5 : decode cX6_readMile 5 = .ok (.aload_n 0, 1) := by decide +kernel
theorem dX6_readMile_6 : decode cX6_readMile 6 = .ok (.invokevirtual 55, 3) := by decide +kernel
theorem dX6_readMile_9 : decode cX6_readMile 9 = .ok (.iastore, 1) := by decide +kernel
theorem dX6_readMile_10 : decode cX6_readMile 10 = .ok (.aload_n 1, 1) := by decide +kernel
theorem dX6_readMile_11 : decode cX6_readMile 11 = .ok (.getfield 73, 3) := by decide +kernel
theorem dX6_readMile_14 : decode cX6_readMile 14 = .ok (.iload_n 2, 1) := by decide +kernel
theorem dX6_readMile_15 : decode cX6_readMile 15 = .ok (.iconst 0, 1) := by decide +kernel
theorem dX6_readMile_16 : decode cX6_readMile 16 = .ok (.iastore, 1) := by decide +kernel
theorem dX6_readMile_17 : decode cX6_readMile 17 = .ok (.aload_n 1, 1) := by decide +kernel
theorem dX6_readMile_18 : decode cX6_readMile 18 = .ok (.getfield 70, 3) := by decide +kernel
theorem dX6_readMile_21 : decode cX6_readMile 21 = .ok (.iload_n 2, 1) := by decide +kernel
theorem dX6_readMile_22 : decode cX6_readMile 22 = .ok (.iaload, 1) := by decide +kernel
theorem dX6_readMile_23 : decode cX6_readMile 23 = .ok (.ifCond .ge 5, 3) := by decide +kernel
theorem dX6_readMile_26 : decode cX6_readMile 26 = .ok (.iconst 0, 1) := by decide +kernel
theorem dX6_readMile_27 : decode cX6_readMile 27 = .ok (.ireturn, 1) := by decide +kernel
theorem dX6_readMile_28 : decode cX6_readMile 28 = .ok (.aload_n 0, 1) := by decide +kernel
theorem dX6_readMile_29 : decode cX6_readMile 29 = .ok (.invokevirtual 32, 3) := by decide +kernel
theorem dX6_readMile_32 : decode cX6_readMile 32 = .ok (.bipush 119, 2) := by decide +kernel
theorem dX6_readMile_34 : decode cX6_readMile 34 = .ok (.if_icmp .ne 25, 3) := by decide +kernel
theorem dX6_readMile_37 : decode cX6_readMile 37 = .ok (.aload_n 0, 1) := by decide +kernel
theorem dX6_readMile_38 : decode cX6_readMile 38 = .ok (.dup, 1) := by decide +kernel
theorem dX6_readMile_39 : decode cX6_readMile 39 = .ok (.getfield 29, 3) := by decide +kernel
theorem dX6_readMile_42 : decode cX6_readMile 42 = .ok (.iconst 1, 1) := by decide +kernel
theorem dX6_readMile_43 : decode cX6_readMile 43 = .ok (.iadd, 1) := by decide +kernel
theorem dX6_readMile_44 : decode cX6_readMile 44 = .ok (.putfield 29, 3) := by decide +kernel
theorem dX6_readMile_47 : decode cX6_readMile 47 = .ok (.aload_n 1, 1) := by decide +kernel
theorem dX6_readMile_48 : decode cX6_readMile 48 = .ok (.getfield 73, 3) := by decide +kernel
theorem dX6_readMile_51 : decode cX6_readMile 51 = .ok (.iload_n 2, 1) := by decide +kernel
theorem dX6_readMile_52 : decode cX6_readMile 52 = .ok (.aload_n 0, 1) := by decide +kernel
theorem dX6_readMile_53 : decode cX6_readMile 53 = .ok (.bipush 16, 2) := by decide +kernel
theorem dX6_readMile_55 : decode cX6_readMile 55 = .ok (.invokevirtual 45, 3) := by decide +kernel
theorem dX6_readMile_58 : decode cX6_readMile 58 = .ok (.iastore, 1) := by decide +kernel
theorem dX6_readMile_59 : decode cX6_readMile 59 = .ok (.aload_n 1, 1) := by decide +kernel
theorem dX6_readMile_60 : decode cX6_readMile 60 = .ok (.getfield 73, 3) := by decide +kernel
theorem dX6_readMile_63 : decode cX6_readMile 63 = .ok (.iload_n 2, 1) := by decide +kernel
theorem dX6_readMile_64 : decode cX6_readMile 64 = .ok (.iaload, 1) := by decide +kernel
theorem dX6_readMile_65 : decode cX6_readMile 65 = .ok (.ifCond .lt 7, 3) := by decide +kernel
theorem dX6_readMile_68 : decode cX6_readMile 68 = .ok (.iconst 1, 1) := by decide +kernel
theorem dX6_readMile_69 : decode cX6_readMile 69 = .ok (.goto 4, 3) := by decide +kernel
theorem dX6_readMile_72 : decode cX6_readMile 72 = .ok (.iconst 0, 1) := by decide +kernel
theorem dX6_readMile_73 : decode cX6_readMile 73 = .ok (.ireturn, 1) := by decide +kernel
theorem dX6_look_0 : decode cX6_look 0 = .ok (.aload_n 0, 1) := by decide +kernel
theorem dX6_look_1 : decode cX6_look 1 = .ok (.getfield 29, 3) := by decide +kernel
theorem dX6_look_4 : decode cX6_look 4 = .ok (.aload_n 0, 1) := by decide +kernel
theorem dX6_look_5 : decode cX6_look 5 = .ok (.getfield 25, 3) := by decide +kernel
theorem dX6_look_8 : decode cX6_look 8 = .ok (.if_icmp .ge 30, 3) := by decide +kernel
theorem dX6_look_11 : decode cX6_look 11 = .ok (.aload_n 0, 1) := by decide +kernel
theorem dX6_look_12 : decode cX6_look 12 = .ok (.getfield 9, 3) := by decide +kernel
theorem dX6_look_15 : decode cX6_look 15 = .ok (.aload_n 0, 1) := by decide +kernel
theorem dX6_look_16 : decode cX6_look 16 = .ok (.getfield 29, 3) := by decide +kernel
theorem dX6_look_19 : decode cX6_look 19 = .ok (.iaload, 1) := by decide +kernel
theorem dX6_look_20 : decode cX6_look 20 = .ok (.bipush 32, 2) := by decide +kernel
theorem dX6_look_22 : decode cX6_look 22 = .ok (.if_icmp .ne 16, 3) := by decide +kernel
theorem dX6_look_25 : decode cX6_look 25 = .ok (.aload_n 0, 1) := by decide +kernel
theorem dX6_look_26 : decode cX6_look 26 = .ok (.dup, 1) := by decide +kernel
theorem dX6_look_27 : decode cX6_look 27 = .ok (.getfield 29, 3) := by decide +kernel
theorem dX6_look_30 : decode cX6_look 30 = .ok (.iconst 1, 1) := by decide +kernel
theorem dX6_look_31 : decode cX6_look 31 = .ok (.iadd, 1) := by decide +kernel
theorem dX6_look_32 : decode cX6_look 32 = .ok (.putfield 29, 3) := by decide +kernel
theorem dX6_look_35 : decode cX6_look 35 = .ok (.goto (-35), 3) := by decide +kernel
theorem dX6_look_38 : decode cX6_look 38 = .ok (.aload_n 0, 1) := by decide +kernel
theorem dX6_look_39 : decode cX6_look 39 = .ok (.getfield 29, 3) := by decide +kernel
theorem dX6_look_42 : decode cX6_look 42 = .ok (.aload_n 0, 1) := by decide +kernel
theorem dX6_look_43 : decode cX6_look 43 = .ok (.getfield 25, 3) := by decide +kernel
theorem dX6_look_46 : decode cX6_look 46 = .ok (.if_icmp .ge 15, 3) := by decide +kernel
theorem dX6_look_49 : decode cX6_look 49 = .ok (.aload_n 0, 1) := by decide +kernel
theorem dX6_look_50 : decode cX6_look 50 = .ok (.getfield 9, 3) := by decide +kernel
theorem dX6_look_53 : decode cX6_look 53 = .ok (.aload_n 0, 1) := by decide +kernel
theorem dX6_look_54 : decode cX6_look 54 = .ok (.getfield 29, 3) := by decide +kernel
theorem dX6_look_57 : decode cX6_look 57 = .ok (.iaload, 1) := by decide +kernel
theorem dX6_look_58 : decode cX6_look 58 = .ok (.goto 4, 3) := by decide +kernel
theorem dX6_look_61 : decode cX6_look 61 = .ok (.iconst (-1), 1) := by decide +kernel
theorem dX6_look_62 : decode cX6_look 62 = .ok (.ireturn, 1) := by decide +kernel
set_option maxRecDepth 20000 in
theorem ggX6_readDigit_X6_look : GoodIn wsX6_readDigit wsX6_look := goodIn_r _ [6, 1, 7, 8, 15, 16, 17] (by decide +kernel) (by decide +kernel)
set_option maxRecDepth 20000 in
theorem gX6_readDigit_X6_look : GoodIn wsX6_readDigit (wsV RX6 32 RX6 yX6_look wsX6_look) := goodIn_app (goodIn_of _ (by decide +kernel)) ggX6_readDigit_X6_look
set_option maxRecDepth 20000 in
theorem ggX6_readDigit_X6_isDigit : GoodIn wsX6_readDigit wsX6_isDigit := goodIn_r _ [11, 12, 13, 14] (by decide +kernel) (by decide +kernel)
set_option maxRecDepth 20000 in
theorem gX6_readDigit_X6_isDigit : GoodIn wsX6_readDigit (va_wsS RX6 76 yX6_isDigit wsX6_isDigit) := goodIn_app (goodIn_of _ (by decide +kernel)) ggX6_readDigit_X6_isDigit
theorem dX6_readDigit_0 : decode cX6_readDigit 0 = .ok (.aload_n 0, 1) := by decide +kernel
theorem dX6_readDigit_1 : decode cX6_readDigit 1 = .ok (.invokevirtual 32, 3) := by decide +kernel
theorem dX6_readDigit_4 : decode cX6_readDigit 4 = .ok (.istore_n 1, 1) := by decide +kernel
theorem dX6_readDigit_5 : decode cX6_readDigit 5 = .ok (.iload_n 1, 1) := by decide +kernel
theorem dX6_readDigit_6 : decode cX6_readDigit 6 = .ok (.invokestatic 76, 3) := by decide +kernel
theorem dX6_readDigit_9 : decode cX6_readDigit 9 = .ok (.ifCond .ne 5, 3) := by decide +kernel
theorem dX6_readDigit_12 : decode cX6_readDigit 12 = .ok (.iconst (-1), 1) := by decide +kernel
theorem dX6_readDigit_13 : decode cX6_readDigit 13 = .ok (.ireturn, 1) := by decide +kernel
theorem dX6_readDigit_14 : decode cX6_readDigit 14 = .ok (.aload_n 0, 1) := by decide +kernel
theorem dX6_readDigit_15 : decode cX6_readDigit 15 = .ok (.dup, 1) := by decide +kernel
theorem dX6_readDigit_16 : decode cX6_readDigit 16 = .ok (.getfield 29, 3) := by decide +kernel
theorem dX6_readDigit_19 : decode cX6_readDigit 19 = .ok (.iconst 1, 1) := by decide +kernel
theorem dX6_readDigit_20 : decode cX6_readDigit 20 = .ok (.iadd, 1) := by decide +kernel
theorem dX6_readDigit_21 : decode cX6_readDigit 21 = .ok (.putfield 29, 3) := by decide +kernel
theorem dX6_readDigit_24 : decode cX6_readDigit 24 = .ok (.iload_n 1, 1) := by decide +kernel
theorem dX6_readDigit_25 : decode cX6_readDigit 25 = .ok (.bipush 48, 2) := by decide +kernel
theorem dX6_readDigit_27 : decode cX6_readDigit 27 = .ok (.isub, 1) := by decide +kernel
theorem dX6_readDigit_28 : decode cX6_readDigit 28 = .ok (.ireturn, 1) := by decide +kernel
set_option maxRecDepth 20000 in
theorem ggX6_readNumber_X6_look : GoodIn wsX6_readNumber wsX6_look := goodIn_r _ [12, 1, 2, 3, 19, 20, 21] (by decide +kernel) (by decide +kernel)
set_option maxRecDepth 20000 in
theorem gX6_readNumber_X6_look : GoodIn wsX6_readNumber (wsV RX6 32 RX6 yX6_look wsX6_look) := goodIn_app (goodIn_of _ (by decide +kernel)) ggX6_readNumber_X6_look
set_option maxRecDepth 20000 in
theorem ggX6_readNumber_X6_isDigit : GoodIn wsX6_readNumber wsX6_isDigit := goodIn_r _ [15, 16, 17, 18] (by decide +kernel) (by decide +kernel)
set_option maxRecDepth 20000 in
theorem gX6_readNumber_X6_isDigit : GoodIn wsX6_readNumber (va_wsS RX6 76 yX6_isDigit wsX6_isDigit) := goodIn_app (goodIn_of _ (by decide +kernel)) ggX6_readNumber_X6_isDigit
theorem dX6_readNumber_0 : decode cX6_readNumber 0 = .ok (.aload_n 0, 1) := by decide +kernel
theorem dX6_readNumber_1 : decode cX6_readNumber 1 = .ok (.invokevirtual 32, 3) := by decide +kernel
theorem dX6_readNumber_4 : decode cX6_readNumber 4 = .ok (.pop, 1) := by decide +kernel
theorem dX6_readNumber_5 : decode cX6_readNumber 5 = .ok (.iconst 0, 1) := by decide +kernel
theorem dX6_readNumber_6 : decode cX6_readNumber 6 = .ok (.istore_n 2, 1) := by decide +kernel
theorem dX6_readNumber_7 : decode cX6_readNumber 7 = .ok (.aload_n 0, 1) := by decide +kernel
theorem dX6_readNumber_8 : decode cX6_readNumber 8 = .ok (.getfield 29, 3) := by decide +kernel
theorem dX6_readNumber_11 : decode cX6_readNumber 11 = .ok (.istore_n 3, 1) := by decide +kernel
theorem dX6_readNumber_12 : decode cX6_readNumber 12 = .ok (.iload_n 3, 1) := by decide +kernel
theorem dX6_readNumber_13 : decode cX6_readNumber 13 = .ok (.aload_n 0, 1) := by decide +kernel
theorem dX6_readNumber_14 : decode cX6_readNumber 14 = .ok (.getfield 25, 3) := by decide +kernel
theorem dX6_readNumber_17 : decode cX6_readNumber 17 = .ok (.if_icmp .ge 42, 3) := by decide +kernel
theorem dX6_readNumber_20 : decode cX6_readNumber 20 = .ok (.aload_n 0, 1) := by decide +kernel
theorem dX6_readNumber_21 : decode cX6_readNumber 21 = .ok (.getfield 9, 3) := by decide +kernel
theorem dX6_readNumber_24 : decode cX6_readNumber 24 = .ok (.iload_n 3, 1) := by decide +kernel
theorem dX6_readNumber_25 : decode cX6_readNumber 25 = .ok (.iaload, 1) := by decide +kernel
theorem dX6_readNumber_26 : decode cX6_readNumber 26 = .ok (.invokestatic 76, 3) := by decide +kernel
theorem dX6_readNumber_29 : decode cX6_readNumber 29 = .ok (.ifCond .eq 30, 3) := by decide +kernel
theorem dX6_readNumber_32 : decode cX6_readNumber 32 = .ok (.bipush 10, 2) := by decide +kernel
theorem dX6_readNumber_34 : decode cX6_readNumber 34 = .ok (.iload_n 2, 1) := by decide +kernel
theorem dX6_readNumber_35 : decode cX6_readNumber 35 = .ok (.imul, 1) := by decide +kernel
theorem dX6_readNumber_36 : decode cX6_readNumber 36 = .ok (.aload_n 0, 1) := by decide +kernel
theorem dX6_readNumber_37 : decode cX6_readNumber 37 = .ok (.getfield 9, 3) := by decide +kernel
theorem dX6_readNumber_40 : decode cX6_readNumber 40 = .ok (.iload_n 3, 1) := by decide +kernel
theorem dX6_readNumber_41 : decode cX6_readNumber 41 = .ok (.iaload, 1) := by decide +kernel
theorem dX6_readNumber_42 : decode cX6_readNumber 42 = .ok (.iadd, 1) := by decide +kernel
theorem dX6_readNumber_43 : decode cX6_readNumber 43 = .ok (.bipush 48, 2) := by decide +kernel
theorem dX6_readNumber_45 : decode cX6_readNumber 45 = .ok (.isub, 1) := by decide +kernel
theorem dX6_readNumber_46 : decode cX6_readNumber 46 = .ok (.iload_n 1, 1) := by decide +kernel
theorem dX6_readNumber_47 : decode cX6_readNumber 47 = .ok (.iconst 1, 1) := by decide +kernel
theorem dX6_readNumber_48 : decode cX6_readNumber 48 = .ok (.iadd, 1) := by decide +kernel
theorem dX6_readNumber_49 : decode cX6_readNumber 49 = .ok (.invokestatic 80, 3) := by decide +kernel
theorem dX6_readNumber_52 : decode cX6_readNumber 52 = .ok (.istore_n 2, 1) := by decide +kernel
theorem dX6_readNumber_53 : decode cX6_readNumber 53 = .ok (.iinc 3 1, 3) := by decide +kernel
theorem dX6_readNumber_56 : decode cX6_readNumber 56 = .ok (.goto (-44), 3) := by decide +kernel
theorem dX6_readNumber_59 : decode cX6_readNumber 59 = .ok (.iload_n 3, 1) := by decide +kernel
theorem dX6_readNumber_60 : decode cX6_readNumber 60 = .ok (.aload_n 0, 1) := by decide +kernel
theorem dX6_readNumber_61 : decode cX6_readNumber 61 = .ok (.getfield 29, 3) := by decide +kernel
theorem dX6_readNumber_64 : decode cX6_readNumber 64 = .ok (.if_icmp .eq 8, 3) := by decide +kernel
theorem dX6_readNumber_67 : decode cX6_readNumber 67 = .ok (.iload_n 2, 1) := by decide +kernel
theorem dX6_readNumber_68 : decode cX6_readNumber 68 = .ok (.iload_n 1, 1) := by decide +kernel
theorem dX6_readNumber_69 : decode cX6_readNumber 69 = .ok (.if_icmp .le 5, 3) := by decide +kernel
theorem dX6_readNumber_72 : decode cX6_readNumber 72 = .ok (.iconst (-1), 1) := by decide +kernel
theorem dX6_readNumber_73 : decode cX6_readNumber 73 = .ok (.ireturn, 1) := by decide +kernel
theorem dX6_readNumber_74 : decode cX6_readNumber 74 = .ok (.aload_n 0, 1) := by decide +kernel
theorem dX6_readNumber_75 : decode cX6_readNumber 75 = .ok (.iload_n 3, 1) := by decide +kernel
theorem dX6_readNumber_76 : decode cX6_readNumber 76 = .ok (.putfield 29, 3) := by decide +kernel
theorem dX6_readNumber_79 : decode cX6_readNumber 79 = .ok (.iload_n 2, 1) := by decide +kernel
theorem dX6_readNumber_80 : decode cX6_readNumber 80 = .ok (.ireturn, 1) := by decide +kernel
set_option maxRecDepth 20000 in
theorem ggX6_isDigit_X11_isWithin : GoodIn wsX6_isDigit wsX11_isWithin := goodIn_r _ [3] (by decide +kernel) (by decide +kernel)
set_option maxRecDepth 20000 in
theorem gX6_isDigit_X11_isWithin_n19 : GoodIn wsX6_isDigit (wsX11_isWithin) := ggX6_isDigit_X11_isWithin
theorem dX6_isDigit_0 : decode cX6_isDigit 0 = .ok (.iload_n 0, 1) := by decide +kernel
theorem dX6_isDigit_1 : decode cX6_isDigit 1 = .ok (.bipush 48, 2) := by decide +kernel
theorem dX6_isDigit_3 : decode cX6_isDigit 3 = .ok (.bipush 57, 2) := by decide +kernel
theorem dX6_isDigit_5 : decode cX6_isDigit 5 = .ok (.invokestatic 19, 3) := by decide +kernel
theorem dX6_isDigit_8 : decode cX6_isDigit 8 = .ok (.ireturn, 1) := by decide +kernel
theorem dX7_init_0 : decode cX7_init 0 = .ok (.aload_n 0, 1) := by decide +kernel
theorem dX7_init_1 : decode cX7_init 1 = .ok (.invokespecial 3, 3) := by decide +kernel
theorem dX7_init_4 : decode cX7_init 4 = .ok (.aload_n 0, 1) := by decide +kernel
theorem dX7_init_5 : decode cX7_init 5 = .ok (.iconst 4, 1) := by decide +kernel
theorem dX7_init_6 : decode cX7_init 6 = .ok (.newarray .int, 2) := by decide +kernel
theorem dX7_init_8 : decode cX7_init 8 = .ok (.putfield 9, 3) := by decide +kernel
theorem dX7_init_11 : decode cX7_init 11 = .ok (.aload_n 0, 1) := by decide +kernel
theorem dX7_init_12 : decode cX7_init 12 = .ok (.iconst 0, 1) := by decide +kernel
theorem dX7_init_13 : decode cX7_init 13 = .ok (.putfield 15, 3) := by decide +kernel
theorem dX7_init_16 : decode cX7_init 16 = .ok (.return_, 1) := by decide +kernel
theorem dX7_setRate_0 : decode cX7_setRate 0 = .ok (.aload_n 0, 1) := by decide +kernel
theorem dX7_setRate_1 : decode cX7_setRate 1 = .ok (.getfield 9, 3) := by decide +kernel
theorem dX7_setRate_4 : decode cX7_setRate 4 = .ok (.iload_n 1, 1) := by decide +kernel
theorem dX7_setRate_5 : decode cX7_setRate 5 = .ok (.iaload, 1) := by decide +kernel
theorem dX7_setRate_6 : decode cX7_setRate 6 = .ok (.istore_n 3, 1) := by decide +kernel
theorem dX7_setRate_7 : decode cX7_setRate 7 = .ok (.aload_n 0, 1) := by decide +kernel
theorem dX7_setRate_8 : decode cX7_setRate 8 = .ok (.getfield 9, 3) := by decide +kernel
theorem dX7_setRate_11 : decode cX7_setRate 11 = .ok (.iload_n 1, 1) := by decide +kernel
theorem dX7_setRate_12 : decode cX7_setRate 12 = .ok (.iload_n 2, 1) := by decide +kernel
theorem dX7_setRate_13 : decode cX7_setRate 13 = .ok (.iastore, 1) := by decide +kernel
theorem dX7_setRate_14 : decode cX7_setRate 14 = .ok (.iload_n 3, 1) := by decide +kernel
theorem dX7_setRate_15 : decode cX7_setRate 15 = .ok (.ireturn, 1) := by decide +kernel
theorem dX7_setFine_0 : decode cX7_setFine 0 = .ok (.aload_n 0, 1) := by decide +kernel
theorem dX7_setFine_1 : decode cX7_setFine 1 = .ok (.getfield 19, 3) := by decide +kernel
theorem dX7_setFine_4 : decode cX7_setFine 4 = .ok (.istore_n 2, 1) := by decide +kernel
theorem dX7_setFine_5 : decode cX7_setFine 5 = .ok (.aload_n 0, 1) := by decide +kernel
theorem dX7_setFine_6 : decode cX7_setFine 6 = .ok (.iload_n 1, 1) := by decide +kernel
theorem dX7_setFine_7 : decode cX7_setFine 7 = .ok (.putfield 19, 3) := by decide +kernel
theorem dX7_setFine_10 : decode cX7_setFine 10 = .ok (.iload_n 2, 1) := by decide +kernel
theorem dX7_setFine_11 : decode cX7_setFine 11 = .ok (.ireturn, 1) := by decide +kernel
theorem dX7_setFoot_0 : decode cX7_setFoot 0 = .ok (.aload_n 0, 1) := by decide +kernel
theorem dX7_setFoot_1 : decode cX7_setFoot 1 = .ok (.getfield 15, 3) := by decide +kernel
theorem dX7_setFoot_4 : decode cX7_setFoot 4 = .ok (.istore_n 2, 1) := by decide +kernel
theorem dX7_setFoot_5 : decode cX7_setFoot 5 = .ok (.aload_n 0, 1) := by decide +kernel
theorem dX7_setFoot_6 : decode cX7_setFoot 6 = .ok (.iload_n 1, 1) := by decide +kernel
theorem dX7_setFoot_7 : decode cX7_setFoot 7 = .ok (.putfield 15, 3) := by decide +kernel
theorem dX7_setFoot_10 : decode cX7_setFoot 10 = .ok (.iload_n 2, 1) := by decide +kernel
theorem dX7_setFoot_11 : decode cX7_setFoot 11 = .ok (.ireturn, 1) := by decide +kernel
theorem dX7_costOf_0 : decode cX7_costOf 0 = .ok (.aload_n 1, 1) := by decide +kernel
theorem dX7_costOf_1 : decode cX7_costOf 1 = .ok (.ifnull 14, 3) := by decide +kernel
theorem dX7_costOf_4 : decode cX7_costOf 4 = .ok (.aload_n 1, 1) := by decide +kernel
theorem dX7_costOf_5 : decode cX7_costOf 5 = .ok (.getfield 22, 3) := by decide +kernel
theorem dX7_costOf_8 : decode cX7_costOf 8 = .ok (.aload_n 0, 1) := by decide +kernel
theorem dX7_costOf_9 : decode cX7_costOf 9 = .ok (.getfield 15, 3) := by decide +kernel
theorem dX7_costOf_12 : decode cX7_costOf 12 = .ok (.if_icmp .eq 5, 3) := by decide +kernel
theorem dX7_costOf_15 : decode cX7_costOf 15 = .ok (.iconst 0, 1) := by decide +kernel
theorem dX7_costOf_16 : decode cX7_costOf 16 = .ok (.ireturn, 1) := by decide +kernel
theorem dX7_costOf_17 : decode cX7_costOf 17 = .ok (.aload_n 1, 1) := by decide +kernel
theorem dX7_costOf_18 : decode cX7_costOf 18 = .ok (.getfield 25, 3) := by decide +kernel
theorem dX7_costOf_21 : decode cX7_costOf 21 = .ok (.ifCond .eq 18, 3) := by decide +kernel
theorem dX7_costOf_24 : decode cX7_costOf 24 = .ok (.bipush 16, 2) := by decide +kernel
theorem dX7_costOf_26 : decode cX7_costOf 26 = .ok (.aload_n 0, 1) := by decide +kernel
theorem dX7_costOf_27 : decode cX7_costOf 27 = .ok (.getfield 9, 3) := by decide +kernel
theorem dX7_costOf_30 : decode cX7_costOf 30 = .ok (.aload_n 1, 1) := by decide +kernel
theorem dX7_costOf_31 : decode cX7_costOf 31 = .ok (.getfield 29, 3) := by decide +kernel
theorem dX7_costOf_34 : decode cX7_costOf 34 = .ok (.iaload, 1) := by decide +kernel
theorem dX7_costOf_35 : decode cX7_costOf 35 = .ok (.imul, 1) := by decide +kernel
theorem dX7_costOf_36 : decode cX7_costOf 36 = .ok (.goto 9, 3) := by decide +kernel
theorem dX7_costOf_39 : decode cX7_costOf 39 = .ok (.aload_n 0, 1) := by decide +kernel
theorem dX7_costOf_40 : decode cX7_costOf 40 = .ok (.getfield 19, 3) := by decide +kernel
theorem dX7_costOf_43 : decode cX7_costOf 43 = .ok (.iload_n 2, 1) := by decide +kernel
theorem dX7_costOf_44 : decode cX7_costOf 44 = .ok (.imul, 1) := by decide +kernel
theorem dX7_costOf_45 : decode cX7_costOf 45 = .ok (.ireturn, 1) := by decide +kernel
theorem dX7_become_0 : decode cX7_become 0 = .ok (.aload_n 1, 1) := by decide +kernel
theorem dX7_become_1 : decode cX7_become 1 = .ok (.getfield 9, 3) := by decide +kernel
theorem dX7_become_4 : decode cX7_become 4 = .ok (.iconst 0, 1) := by decide +kernel
theorem dX7_become_5 : decode cX7_become 5 = .ok (.aload_n 0, 1) := by decide +kernel
theorem dX7_become_6 : decode cX7_become 6 = .ok (.getfield 9, 3) := by decide +kernel
theorem dX7_become_9 : decode cX7_become 9 = .ok (.iconst 0, 1) := by decide +kernel
theorem dX7_become_10 : decode cX7_become 10 = .ok (.iconst 4, 1) := by decide +kernel
theorem dX7_become_11 : decode cX7_become 11 = .ok (.invokestatic 32, 3) := by decide +kernel
theorem dX7_become_14 : decode cX7_become 14 = .ok (.aload_n 0, 1) := by decide +kernel
theorem dX7_become_15 : decode cX7_become 15 = .ok (.aload_n 1, 1) := by decide +kernel
theorem dX7_become_16 : decode cX7_become 16 = .ok (.getfield 19, 3) := by decide +kernel
theorem dX7_become_19 : decode cX7_become 19 = .ok (.putfield 19, 3) := by decide +kernel
theorem dX7_become_22 : decode cX7_become 22 = .ok (.aload_n 0, 1) := by decide +kernel
theorem dX7_become_23 : decode cX7_become 23 = .ok (.aload_n 1, 1) := by decide +kernel
theorem dX7_become_24 : decode cX7_become 24 = .ok (.getfield 15, 3) := by decide +kernel
theorem dX7_become_27 : decode cX7_become 27 = .ok (.putfield 15, 3) := by decide +kernel
theorem dX7_become_30 : decode cX7_become 30 = .ok (.return_, 1) := by decide +kernel
theorem dX8_init_0 : decode cX8_init 0 = .ok (.aload_n 0, 1) := by decide +kernel
theorem dX8_init_1 : decode cX8_init 1 = .ok (.invokespecial 3, 3) := by decide +kernel
theorem dX8_init_4 : decode cX8_init 4 = .ok (.aload_n 0, 1) := by decide +kernel
theorem dX8_init_5 : decode cX8_init 5 = .ok (.bipush 12, 2) := by decide +kernel
theorem dX8_init_7 : decode cX8_init 7 = .ok (.newarray .int, 2) := by decide +kernel
theorem dX8_init_9 : decode cX8_init 9 = .ok (.putfield 9, 3) := by decide +kernel
theorem dX8_init_12 : decode cX8_init 12 = .ok (.return_, 1) := by decide +kernel
set_option maxRecDepth 20000 in
theorem ggX8_read_X11_isWithin : GoodIn wsX8_read wsX11_isWithin := goodIn_r _ [6] (by decide +kernel) (by decide +kernel)
set_option maxRecDepth 20000 in
theorem gX8_read_X11_isWithin_n24 : GoodIn wsX8_read (wsX11_isWithin) := ggX8_read_X11_isWithin
theorem dX8_read_0 : decode cX8_read 0 = .ok (.aload_n 0, 1) := by decide +kernel
theorem dX8_read_1 : decode cX8_read 1 = .ok (.iload_n 3, 1) := by decide +kernel
theorem dX8_read_2 : decode cX8_read 2 = .ok (.putfield 15, 3) := by decide +kernel
theorem dX8_read_5 : decode cX8_read 5 = .ok (.iconst 0, 1) := by decide +kernel
theorem dX8_read_6 : decode cX8_read 6 = .ok (.istore 4, 2) := by decide +kernel
theorem dX8_read_8 : decode cX8_read 8 = .ok (.iload 4, 2) := by decide +kernel
theorem dX8_read_10 : decode cX8_read 10 = .ok (.iload_n 3, 1) := by decide +kernel
theorem dX8_read_11 : decode cX8_read 11 = .ok (.if_icmp .ge 43, 3) := by decide +kernel
theorem dX8_read_14 : decode cX8_read 14 = .ok (.aload_n 0, 1) := by decide +kernel
theorem dX8_read_15 : decode cX8_read 15 = .ok (.getfield 9, 3) := by decide +kernel
theorem dX8_read_18 : decode cX8_read 18 = .ok (.iload 4, 2) := by decide +kernel
theorem dX8_read_20 : decode cX8_read 20 = .ok (.aload_n 1, 1) := by decide +kernel
theorem dX8_read_21 : decode cX8_read 21 = .ok (.getfield 19, 3) := by decide +kernel
theorem dX8_read_24 : decode cX8_read 24 = .ok (.iload_n 2, 1) := by decide +kernel
theorem dX8_read_25 : decode cX8_read 25 = .ok (.iload 4, 2) := by decide +kernel
theorem dX8_read_27 : decode cX8_read 27 = .ok (.iadd, 1) := by decide +kernel
theorem dX8_read_28 : decode cX8_read 28 = .ok (.iaload, 1) := by decide +kernel
theorem dX8_read_29 : decode cX8_read 29 = .ok (.iastore, 1) := by decide +kernel
theorem dX8_read_30 : decode cX8_read 30 = .ok (.aload_n 0, 1) := by decide +kernel
theorem dX8_read_31 : decode cX8_read 31 = .ok (.getfield 9, 3) := by decide +kernel
theorem dX8_read_34 : decode cX8_read 34 = .ok (.iload 4, 2) := by decide +kernel
theorem dX8_read_36 : decode cX8_read 36 = .ok (.iaload, 1) := by decide +kernel
theorem dX8_read_37 : decode cX8_read 37 = .ok (.iconst 0, 1) := by decide +kernel
theorem dX8_read_38 : decode cX8_read 38 = .ok (.bipush 9, 2) := by decide +kernel
theorem dX8_read_40 : decode cX8_read 40 = .ok (.invokestatic 24, 3) := by decide +kernel
theorem dX8_read_43 : decode cX8_read 43 = .ok (.ifCond .ne 5, 3) := by decide +kernel
theorem dX8_read_46 : decode cX8_read 46 = .ok (.iconst 0, 1) := by decide +kernel
theorem dX8_read_47 : decode cX8_read 47 = .ok (.ireturn, 1) := by decide +kernel
theorem dX8_read_48 : decode cX8_read 48 = .ok (.iinc 4 1, 3) := by decide +kernel
theorem dX8_read_51 : decode cX8_read 51 = .ok (.goto (-43), 3) := by decide +kernel
theorem dX8_read_54 : decode cX8_read 54 = .ok (.iconst 1, 1) := by decide +kernel
theorem dX8_read_55 : decode cX8_read 55 = .ok (.ireturn, 1) := by decide +kernel
theorem dX8_isOf_0 : decode cX8_isOf 0 = .ok (.iconst 0, 1) := by decide +kernel
theorem dX8_isOf_1 : decode cX8_isOf 1 = .ok (.istore_n 3, 1) := by decide +kernel
theorem dX8_isOf_2 : decode cX8_isOf 2 = .ok (.iload_n 3, 1) := by decide +kernel
theorem dX8_isOf_3 : decode cX8_isOf 3 = .ok (.aload_n 0, 1) := by decide +kernel
theorem dX8_isOf_4 : decode cX8_isOf 4 = .ok (.getfield 15, 3) := by decide +kernel
theorem dX8_isOf_7 : decode cX8_isOf 7 = .ok (.if_icmp .ge 31, 3) := by decide +kernel
theorem dX8_isOf_10 : decode cX8_isOf 10 = .ok (.aload_n 0, 1) := by decide +kernel
theorem dX8_isOf_11 : decode cX8_isOf 11 = .ok (.getfield 9, 3) := by decide +kernel
theorem dX8_isOf_14 : decode cX8_isOf 14 = .ok (.iload_n 3, 1) := by decide +kernel
theorem dX8_isOf_15 : decode cX8_isOf 15 = .ok (.iaload, 1) := by decide +kernel
theorem dX8_isOf_16 : decode cX8_isOf 16 = .ok (.iload_n 3, 1) := by decide +kernel
theorem dX8_isOf_17 : decode cX8_isOf 17 = .ok (.iconst 2, 1) := by decide +kernel
theorem dX8_isOf_18 : decode cX8_isOf 18 = .ok (.irem, 1) := by decide +kernel
theorem dX8_isOf_19 : decode cX8_isOf 19 = .ok (.ifCond .ne 7, 3) := by decide +kernel
theorem dX8_isOf_22 : decode cX8_isOf 22 = .ok (.iload_n 1, 1) := by decide +kernel
theorem dX8_isOf_23 : decode cX8_isOf 23 = .ok (.goto 4, 3) := by decide +kernel
theorem dX8_isOf_26 : decode cX8_isOf 26 = .ok (.iload_n 2, 1) := by decide +kernel
theorem dX8_isOf_27 : decode cX8_isOf 27 = .ok (.if_icmp .eq 5, 3) := by decide +kernel
theorem dX8_isOf_30 : decode cX8_isOf 30 = .ok (.iconst 0, 1) := by decide +kernel
theorem dX8_isOf_31 : decode cX8_isOf 31 = .ok (.ireturn, 1) := by decide +kernel
theorem dX8_isOf_32 : decode cX8_isOf 32 = .ok (.iinc 3 1, 3) := by decide +kernel
theorem dX8_isOf_35 : decode cX8_isOf 35 = .ok (.goto (-33), 3) := by decide +kernel
theorem dX8_isOf_38 : decode cX8_isOf 38 = .ok (.iconst 1, 1) := by decide +kernel
theorem dX8_isOf_39 : decode cX8_isOf 39 = .ok (.ireturn, 1) := by decide +kernel
set_option maxRecDepth 20000 in
theorem ggX8_waysOf_X8_waysOnBoth : GoodIn wsX8_waysOf wsX8_waysOnBoth := goodIn_r _ [6, 7, 8, 9, 10, 11, 12, 5, 13, 14, 15, 16, 17, 18, 19, 20, 21, 22, 28, 29, 30, 31, 32, 33, 34, 35, 36, 37, 38, 39, 40, 41, 42, 43] (by decide +kernel) (by decide +kernel)
set_option maxRecDepth 20000 in
theorem gX8_waysOf_X8_waysOnBoth : GoodIn wsX8_waysOf (wsV RX8 33 RX8 yX8_waysOnBoth wsX8_waysOnBoth) := goodIn_app (goodIn_of _ (by decide +kernel)) ggX8_waysOf_X8_waysOnBoth
set_option maxRecDepth 20000 in
theorem ggX8_waysOf_X8_waysOnOne : GoodIn wsX8_waysOf wsX8_waysOnOne := goodIn_r _ [26, 1, 7, 8, 9, 27, 10, 11, 12, 5, 13, 14, 15, 16, 17, 18, 19, 20, 21, 22, 28, 29, 30, 31, 32, 33, 34, 35, 36, 37, 38, 39, 40, 41, 42, 43] (by decide +kernel) (by decide +kernel)
set_option maxRecDepth 20000 in
theorem gX8_waysOf_X8_waysOnOne : GoodIn wsX8_waysOf (wsV RX8 37 RX8 yX8_waysOnOne wsX8_waysOnOne) := goodIn_app (goodIn_of _ (by decide +kernel)) ggX8_waysOf_X8_waysOnOne
theorem dX8_waysOf_0 : decode cX8_waysOf 0 = .ok (.aload_n 1, 1) := by decide +kernel
theorem dX8_waysOf_1 : decode cX8_waysOf 1 = .ok (.getfield 28, 3) := by decide +kernel
theorem dX8_waysOf_4 : decode cX8_waysOf 4 = .ok (.iload_n 2, 1) := by decide +kernel
theorem dX8_waysOf_5 : decode cX8_waysOf 5 = .ok (.iaload, 1) := by decide +kernel
theorem dX8_waysOf_6 : decode cX8_waysOf 6 = .ok (.ifCond .ne 12, 3) := by decide +kernel
theorem dX8_waysOf_9 : decode cX8_waysOf 9 = .ok (.aload_n 0, 1) := by decide +kernel
theorem dX8_waysOf_10 : decode cX8_waysOf 10 = .ok (.aload_n 1, 1) := by decide +kernel
theorem dX8_waysOf_11 : decode cX8_waysOf 11 = .ok (.iload_n 2, 1) := by decide +kernel
theorem dX8_waysOf_12 : decode cX8_waysOf 12 = .ok (.invokevirtual 33, 3) := by decide +kernel
theorem dX8_waysOf_15 : decode cX8_waysOf 15 = .ok (.goto 9, 3) := by decide +kernel
theorem dX8_waysOf_18 : decode cX8_waysOf 18 = .ok (.aload_n 0, 1) := by decide +kernel
theorem dX8_waysOf_19 : decode cX8_waysOf 19 = .ok (.aload_n 1, 1) := by decide +kernel
theorem dX8_waysOf_20 : decode cX8_waysOf 20 = .ok (.iload_n 2, 1) := by decide +kernel
theorem dX8_waysOf_21 : decode cX8_waysOf 21 = .ok (.invokevirtual 37, 3) := by decide +kernel
theorem dX8_waysOf_24 : decode cX8_waysOf 24 = .ok (.ireturn, 1) := by decide +kernel
set_option maxRecDepth 20000 in
theorem ggX8_waysOnBoth_X8_isOf : GoodIn wsX8_waysOnBoth wsX8_isOf := goodIn_r _ [8, 9, 10, 32, 33] (by decide +kernel) (by decide +kernel)
set_option maxRecDepth 20000 in
theorem gX8_waysOnBoth_X8_isOf : GoodIn wsX8_waysOnBoth (wsV RX8 40 RX8 yX8_isOf wsX8_isOf) := goodIn_app (goodIn_of _ (by decide +kernel)) ggX8_waysOnBoth_X8_isOf
set_option maxRecDepth 20000 in
theorem ggX8_waysOnBoth_X5_mark : GoodIn wsX8_waysOnBoth wsX5_mark := goodIn_r _ [15, 16, 17, 27, 28, 29, 30, 31] (by decide +kernel) (by decide +kernel)
set_option maxRecDepth 20000 in
theorem gX8_waysOnBoth_X5_mark : GoodIn wsX8_waysOnBoth (wsV RX8 56 RX5 yX5_mark wsX5_mark) := goodIn_app (goodIn_of _ (by decide +kernel)) ggX8_waysOnBoth_X5_mark
theorem dX8_waysOnBoth_0 : decode cX8_waysOnBoth 0 = .ok (.aload_n 0, 1) := by decide +kernel
theorem dX8_waysOnBoth_1 : decode cX8_waysOnBoth 1 = .ok (.iconst 0, 1) := by decide +kernel
theorem dX8_waysOnBoth_2 : decode cX8_waysOnBoth 2 = .ok (.iconst 1, 1) := by decide +kernel
theorem dX8_waysOnBoth_3 : decode cX8_waysOnBoth 3 = .ok (.invokevirtual 40, 3) := by decide +kernel
theorem dX8_waysOnBoth_6 : decode cX8_waysOnBoth 6 = .ok (.ifCond .ne 12, 3) := by decide +kernel
theorem dX8_waysOnBoth_9 : decode cX8_waysOnBoth 9 = .ok (.aload_n 0, 1) := by decide +kernel
theorem dX8_waysOnBoth_10 : decode cX8_waysOnBoth 10 = .ok (.iconst 1, 1) := by decide +kernel
theorem dX8_waysOnBoth_11 : decode cX8_waysOnBoth 11 = .ok (.iconst 0, 1) := by decide +kernel
theorem dX8_waysOnBoth_12 : decode cX8_waysOnBoth 12 = .ok (.invokevirtual 40, 3) := by decide +kernel
theorem dX8_waysOnBoth_15 : decode cX8_waysOnBoth 15 = .ok (.ifCond .eq 7, 3) := by decide +kernel
theorem dX8_waysOnBoth_18 : decode cX8_waysOnBoth 18 = .ok (.iconst 1, 1) := by decide +kernel
theorem dX8_waysOnBoth_19 : decode cX8_waysOnBoth 19 = .ok (.goto 4, 3) := by decide +kernel
theorem dX8_waysOnBoth_22 : decode cX8_waysOnBoth 22 = .ok (.iconst 0, 1) := by decide +kernel
theorem dX8_waysOnBoth_23 : decode cX8_waysOnBoth 23 = .ok (.istore_n 3, 1) := by decide +kernel
theorem dX8_waysOnBoth_24 : decode cX8_waysOnBoth 24 = .ok (.iconst 0, 1) := by decide +kernel
theorem dX8_waysOnBoth_25 : decode cX8_waysOnBoth 25 = .ok (.istore 4, 2) := by decide +kernel
theorem dX8_waysOnBoth_27 : decode cX8_waysOnBoth 27 = .ok (.iload 4, 2) := by decide +kernel
theorem dX8_waysOnBoth_29 : decode cX8_waysOnBoth 29 = .ok (.aload_n 1, 1) := by decide +kernel
theorem dX8_waysOnBoth_30 : decode cX8_waysOnBoth 30 = .ok (.getfield 44, 3) := by decide +kernel
theorem dX8_waysOnBoth_33 : decode cX8_waysOnBoth 33 = .ok (.if_icmp .ge 83, 3) := by decide +kernel
theorem dX8_waysOnBoth_36 : decode cX8_waysOnBoth 36 = .ok (.iconst 0, 1) := by decide +kernel
theorem dX8_waysOnBoth_37 : decode cX8_waysOnBoth 37 = .ok (.istore 5, 2) := by decide +kernel
theorem dX8_waysOnBoth_39 : decode cX8_waysOnBoth 39 = .ok (.iload 5, 2) := by decide +kernel
theorem dX8_waysOnBoth_41 : decode cX8_waysOnBoth 41 = .ok (.aload_n 1, 1) := by decide +kernel
theorem dX8_waysOnBoth_42 : decode cX8_waysOnBoth 42 = .ok (.getfield 44, 3) := by decide +kernel
theorem dX8_waysOnBoth_45 : decode cX8_waysOnBoth 45 = .ok (.if_icmp .ge 65, 3) := by decide +kernel
theorem dX8_waysOnBoth_48 : decode cX8_waysOnBoth 48 = .ok (.aload_n 1, 1) := by decide +kernel
theorem dX8_waysOnBoth_49 : decode cX8_waysOnBoth 49 = .ok (.getfield 47, 3) := by decide +kernel
theorem dX8_waysOnBoth_52 : decode cX8_waysOnBoth 52 = .ok (.iload 4, 2) := by decide +kernel
theorem dX8_waysOnBoth_54 : decode cX8_waysOnBoth 54 = .ok (.aaload, 1) := by decide +kernel
theorem dX8_waysOnBoth_55 : decode cX8_waysOnBoth 55 = .ok (.astore 6, 2) := by decide +kernel
theorem dX8_waysOnBoth_57 : decode cX8_waysOnBoth 57 = .ok (.aload_n 1, 1) := by decide +kernel
theorem dX8_waysOnBoth_58 : decode cX8_waysOnBoth 58 = .ok (.getfield 47, 3) := by decide +kernel
theorem dX8_waysOnBoth_61 : decode cX8_waysOnBoth 61 = .ok (.iload 5, 2) := by decide +kernel
theorem dX8_waysOnBoth_63 : decode cX8_waysOnBoth 63 = .ok (.aaload, 1) := by decide +kernel
theorem dX8_waysOnBoth_64 : decode cX8_waysOnBoth 64 = .ok (.astore 7, 2) := by decide +kernel
theorem dX8_waysOnBoth_66 : decode cX8_waysOnBoth 66 = .ok (.aload 6, 2) := by decide +kernel
theorem dX8_waysOnBoth_68 : decode cX8_waysOnBoth 68 = .ok (.getfield 51, 3) := by decide +kernel
theorem dX8_waysOnBoth_71 : decode cX8_waysOnBoth 71 = .ok (.iload_n 2, 1) := by decide +kernel
theorem dX8_waysOnBoth_72 : decode cX8_waysOnBoth 72 = .ok (.if_icmp .ne 32, 3) := by decide +kernel
theorem dX8_waysOnBoth_75 : decode cX8_waysOnBoth 75 = .ok (.aload 7, 2) := by decide +kernel
theorem dX8_waysOnBoth_77 : decode cX8_waysOnBoth 77 = .ok (.getfield 51, 3) := by decide +kernel
theorem dX8_waysOnBoth_80 : decode cX8_waysOnBoth 80 = .ok (.iload_n 2, 1) := by decide +kernel
theorem dX8_waysOnBoth_81 : decode cX8_waysOnBoth 81 = .ok (.if_icmp .ne 23, 3) := by decide +kernel
theorem dX8_waysOnBoth_84 : decode cX8_waysOnBoth 84 = .ok (.aload_n 0, 1) := by decide +kernel
theorem dX8_waysOnBoth_85 : decode cX8_waysOnBoth 85 = .ok (.aload 6, 2) := by decide +kernel
theorem dX8_waysOnBoth_87 : decode cX8_waysOnBoth 87 = .ok (.invokevirtual 56, 3) := by decide +kernel
theorem dX8_waysOnBoth_90 : decode cX8_waysOnBoth 90 = .ok (.aload 7, 2) := by decide +kernel
theorem dX8_waysOnBoth_92 : decode cX8_waysOnBoth 92 = .ok (.invokevirtual 56, 3) := by decide +kernel
theorem dX8_waysOnBoth_95 : decode cX8_waysOnBoth 95 = .ok (.invokevirtual 40, 3) := by decide +kernel
theorem dX8_waysOnBoth_98 : decode cX8_waysOnBoth 98 = .ok (.ifCond .eq 6, 3) := by decide +kernel
theorem dX8_waysOnBoth_101 : decode cX8_waysOnBoth 101 = .ok (.iinc 3 1, 3) := by decide +kernel
theorem dX8_waysOnBoth_104 : decode cX8_waysOnBoth 104 = .ok (.iinc 5 1, 3) := by decide +kernel
theorem dX8_waysOnBoth_107 : decode cX8_waysOnBoth 107 = .ok (.goto (-68), 3) := by decide +kernel
theorem dX8_waysOnBoth_110 : decode cX8_waysOnBoth 110 = .ok (.iinc 4 1, 3) := by decide +kernel
theorem dX8_waysOnBoth_113 : decode cX8_waysOnBoth 113 = .ok (.goto (-86), 3) := by decide +kernel
theorem dX8_waysOnBoth_116 : decode cX8_waysOnBoth 116 = .ok (.iload_n 3, 1) := by decide +kernel
theorem dX8_waysOnBoth_117 : decode cX8_waysOnBoth 117 = .ok (.ireturn, 1) := by decide +kernel
set_option maxRecDepth 20000 in
theorem ggX8_waysOnOne_X8_isOf : GoodIn wsX8_waysOnOne wsX8_isOf := goodIn_r _ [10, 11, 12, 34, 35] (by decide +kernel) (by decide +kernel)
set_option maxRecDepth 20000 in
theorem gX8_waysOnOne_X8_isOf : GoodIn wsX8_waysOnOne (wsV RX8 40 RX8 yX8_isOf wsX8_isOf) := goodIn_app (goodIn_of _ (by decide +kernel)) ggX8_waysOnOne_X8_isOf
set_option maxRecDepth 20000 in
theorem ggX8_waysOnOne_X5_mark : GoodIn wsX8_waysOnOne wsX5_mark := goodIn_r _ [17, 18, 19, 29, 30, 31, 32, 33] (by decide +kernel) (by decide +kernel)
set_option maxRecDepth 20000 in
theorem gX8_waysOnOne_X5_mark : GoodIn wsX8_waysOnOne (wsV RX8 56 RX5 yX5_mark wsX5_mark) := goodIn_app (goodIn_of _ (by decide +kernel)) ggX8_waysOnOne_X5_mark
theorem dX8_waysOnOne_0 : decode cX8_waysOnOne 0 = .ok (.aload_n 1, 1) := by decide +kernel
theorem dX8_waysOnOne_1 : decode cX8_waysOnOne 1 = .ok (.getfield 28, 3) := by decide +kernel
theorem dX8_waysOnOne_4 : decode cX8_waysOnOne 4 = .ok (.iload_n 2, 1) := by decide +kernel
theorem dX8_waysOnOne_5 : decode cX8_waysOnOne 5 = .ok (.iaload, 1) := by decide +kernel
theorem dX8_waysOnOne_6 : decode cX8_waysOnOne 6 = .ok (.iconst 1, 1) := by decide +kernel
theorem dX8_waysOnOne_7 : decode cX8_waysOnOne 7 = .ok (.isub, 1) := by decide +kernel
theorem dX8_waysOnOne_8 : decode cX8_waysOnOne 8 = .ok (.istore_n 3, 1) := by decide +kernel
theorem dX8_waysOnOne_9 : decode cX8_waysOnOne 9 = .ok (.aload_n 0, 1) := by decide +kernel
theorem dX8_waysOnOne_10 : decode cX8_waysOnOne 10 = .ok (.iload_n 3, 1) := by decide +kernel
theorem dX8_waysOnOne_11 : decode cX8_waysOnOne 11 = .ok (.iload_n 3, 1) := by decide +kernel
theorem dX8_waysOnOne_12 : decode cX8_waysOnOne 12 = .ok (.invokevirtual 40, 3) := by decide +kernel
theorem dX8_waysOnOne_15 : decode cX8_waysOnOne 15 = .ok (.ifCond .eq 7, 3) := by decide +kernel
theorem dX8_waysOnOne_18 : decode cX8_waysOnOne 18 = .ok (.iconst 1, 1) := by decide +kernel
theorem dX8_waysOnOne_19 : decode cX8_waysOnOne 19 = .ok (.goto 4, 3) := by decide +kernel
theorem dX8_waysOnOne_22 : decode cX8_waysOnOne 22 = .ok (.iconst 0, 1) := by decide +kernel
theorem dX8_waysOnOne_23 : decode cX8_waysOnOne 23 = .ok (.istore 4, 2) := by decide +kernel
theorem dX8_waysOnOne_25 : decode cX8_waysOnOne 25 = .ok (.iconst 0, 1) := by decide +kernel
theorem dX8_waysOnOne_26 : decode cX8_waysOnOne 26 = .ok (.istore 5, 2) := by decide +kernel
theorem dX8_waysOnOne_28 : decode cX8_waysOnOne 28 = .ok (.iload 5, 2) := by decide +kernel
theorem dX8_waysOnOne_30 : decode cX8_waysOnOne 30 = .ok (.aload_n 1, 1) := by decide +kernel
theorem dX8_waysOnOne_31 : decode cX8_waysOnOne 31 = .ok (.getfield 44, 3) := by decide +kernel
theorem dX8_waysOnOne_34 : decode cX8_waysOnOne 34 = .ok (.if_icmp .ge 56, 3) := by decide +kernel
theorem dX8_waysOnOne_37 : decode cX8_waysOnOne 37 = .ok (.aload_n 1, 1) := by decide +kernel
theorem dX8_waysOnOne_38 : decode cX8_waysOnOne 38 = .ok (.getfield 47, 3) := by decide +kernel
theorem dX8_waysOnOne_41 : decode cX8_waysOnOne 41 = .ok (.iload 5, 2) := by decide +kernel
theorem dX8_waysOnOne_43 : decode cX8_waysOnOne 43 = .ok (.aaload, 1) := by decide +kernel
theorem dX8_waysOnOne_44 : decode cX8_waysOnOne 44 = .ok (.astore 6, 2) := by decide +kernel
theorem dX8_waysOnOne_46 : decode cX8_waysOnOne 46 = .ok (.aload 6, 2) := by decide +kernel
theorem dX8_waysOnOne_48 : decode cX8_waysOnOne 48 = .ok (.getfield 51, 3) := by decide +kernel
theorem dX8_waysOnOne_51 : decode cX8_waysOnOne 51 = .ok (.iload_n 2, 1) := by decide +kernel
theorem dX8_waysOnOne_52 : decode cX8_waysOnOne 52 = .ok (.if_icmp .ne 32, 3) := by decide +kernel
theorem dX8_waysOnOne_55 : decode cX8_waysOnOne 55 = .ok (.aload 6, 2) := by decide +kernel
theorem dX8_waysOnOne_57 : decode cX8_waysOnOne 57 = .ok (.getfield 60, 3) := by decide +kernel
theorem dX8_waysOnOne_60 : decode cX8_waysOnOne 60 = .ok (.iload_n 3, 1) := by decide +kernel
theorem dX8_waysOnOne_61 : decode cX8_waysOnOne 61 = .ok (.if_icmp .ne 23, 3) := by decide +kernel
theorem dX8_waysOnOne_64 : decode cX8_waysOnOne 64 = .ok (.aload_n 0, 1) := by decide +kernel
theorem dX8_waysOnOne_65 : decode cX8_waysOnOne 65 = .ok (.aload 6, 2) := by decide +kernel
theorem dX8_waysOnOne_67 : decode cX8_waysOnOne 67 = .ok (.invokevirtual 56, 3) := by decide +kernel
theorem dX8_waysOnOne_70 : decode cX8_waysOnOne 70 = .ok (.aload 6, 2) := by decide +kernel
theorem dX8_waysOnOne_72 : decode cX8_waysOnOne 72 = .ok (.invokevirtual 56, 3) := by decide +kernel
theorem dX8_waysOnOne_75 : decode cX8_waysOnOne 75 = .ok (.invokevirtual 40, 3) := by decide +kernel
theorem dX8_waysOnOne_78 : decode cX8_waysOnOne 78 = .ok (.ifCond .eq 6, 3) := by decide +kernel
theorem dX8_waysOnOne_81 : decode cX8_waysOnOne 81 = .ok (.iinc 4 1, 3) := by decide +kernel
theorem dX8_waysOnOne_84 : decode cX8_waysOnOne 84 = .ok (.iinc 5 1, 3) := by decide +kernel
theorem dX8_waysOnOne_87 : decode cX8_waysOnOne 87 = .ok (.goto (-59), 3) := by decide +kernel
theorem dX8_waysOnOne_90 : decode cX8_waysOnOne 90 = .ok (.iload 4, 2) := by decide +kernel
theorem dX8_waysOnOne_92 : decode cX8_waysOnOne 92 = .ok (.ireturn, 1) := by decide +kernel
set_option maxRecDepth 20000 in
theorem ggX8_waysOfAll_X8_waysOf : GoodIn wsX8_waysOfAll wsX8_waysOf := goodIn_r _ [6, 7, 8, 9, 10, 5, 11, 12, 13, 14, 15, 16, 17, 18, 19, 20, 21, 22, 23, 24, 25, 26, 27, 28, 29, 30, 31, 32, 33, 34, 35, 36, 37, 38, 39, 40, 41, 42, 43, 44, 45, 46, 47, 48] (by decide +kernel) (by decide +kernel)
set_option maxRecDepth 20000 in
theorem gX8_waysOfAll_X8_waysOf : GoodIn wsX8_waysOfAll (wsV RX8 66 RX8 yX8_waysOf wsX8_waysOf) := goodIn_app (goodIn_of _ (by decide +kernel)) ggX8_waysOfAll_X8_waysOf
theorem dX8_waysOfAll_0 : decode cX8_waysOfAll 0 = .ok (.iconst 0, 1) := by decide +kernel
theorem dX8_waysOfAll_1 : decode cX8_waysOfAll 1 = .ok (.istore_n 2, 1) := by decide +kernel
theorem dX8_waysOfAll_2 : decode cX8_waysOfAll 2 = .ok (.iconst 0, 1) := by decide +kernel
theorem dX8_waysOfAll_3 : decode cX8_waysOfAll 3 = .ok (.istore_n 3, 1) := by decide +kernel
theorem dX8_waysOfAll_4 : decode cX8_waysOfAll 4 = .ok (.iload_n 3, 1) := by decide +kernel
theorem dX8_waysOfAll_5 : decode cX8_waysOfAll 5 = .ok (.aload_n 1, 1) := by decide +kernel
theorem dX8_waysOfAll_6 : decode cX8_waysOfAll 6 = .ok (.getfield 63, 3) := by decide +kernel
theorem dX8_waysOfAll_9 : decode cX8_waysOfAll 9 = .ok (.if_icmp .ge 18, 3) := by decide +kernel
theorem dX8_waysOfAll_12 : decode cX8_waysOfAll 12 = .ok (.iload_n 2, 1) := by decide +kernel
theorem dX8_waysOfAll_13 : decode cX8_waysOfAll 13 = .ok (.aload_n 0, 1) := by decide +kernel
theorem dX8_waysOfAll_14 : decode cX8_waysOfAll 14 = .ok (.aload_n 1, 1) := by decide +kernel
theorem dX8_waysOfAll_15 : decode cX8_waysOfAll 15 = .ok (.iload_n 3, 1) := by decide +kernel
theorem dX8_waysOfAll_16 : decode cX8_waysOfAll 16 = .ok (.invokevirtual 66, 3) := by decide +kernel
theorem dX8_waysOfAll_19 : decode cX8_waysOfAll 19 = .ok (.iadd, 1) := by decide +kernel
theorem dX8_waysOfAll_20 : decode cX8_waysOfAll 20 = .ok (.istore_n 2, 1) := by decide +kernel
theorem dX8_waysOfAll_21 : decode cX8_waysOfAll 21 = .ok (.iinc 3 1, 3) := by decide +kernel
theorem dX8_waysOfAll_24 : decode cX8_waysOfAll 24 = .ok (.goto (-20), 3) := by decide +kernel
theorem dX8_waysOfAll_27 : decode cX8_waysOfAll 27 = .ok (.iload_n 2, 1) := by decide +kernel
theorem dX8_waysOfAll_28 : decode cX8_waysOfAll 28 = .ok (.ireturn, 1) := by decide +kernel
set_option maxRecDepth 20000 in
theorem ggX9_init_X0_init : GoodIn wsX9_init wsX0_init := goodIn_r _ [26, 27, 2, 3, 9, 28, 29, 30, 50, 51, 52, 53] (by decide +kernel) (by decide +kernel)
set_option maxRecDepth 20000 in
theorem gX9_init_X0_init_n56 : GoodIn wsX9_init (wsX0_init) := ggX9_init_X0_init
theorem dX9_init_0 : decode cX9_init 0 = .ok (.aload_n 0, 1) := by decide +kernel
