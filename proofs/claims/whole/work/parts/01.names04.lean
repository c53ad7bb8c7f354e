theorem dX11_isSort_1 : decode cX11_isSort 1 = .ok (.iconst 0, 1) := by decide +kernel
theorem dX11_isSort_2 : decode cX11_isSort 2 = .ok (.iconst 3, 1) := by decide +kernel
theorem dX11_isSort_3 : decode cX11_isSort 3 = .ok (.invokestatic 61, 3) := by decide +kernel
theorem dX11_isSort_6 : decode cX11_isSort 6 = .ok (.ireturn, 1) := by decide +kernel
set_option maxRecDepth 20000 in
theorem ggX11_isMile_X11_isWithin : GoodIn wsX11_isMile wsX11_isWithin := goodIn_r _ [4] (by decide +kernel) (by decide +kernel)
set_option maxRecDepth 20000 in
theorem gX11_isMile_X11_isWithin : GoodIn wsX11_isMile (va_wsS RX11 61 yX11_isWithin wsX11_isWithin) := goodIn_app (goodIn_of _ (by decide +kernel)) ggX11_isMile_X11_isWithin
theorem dX11_isMile_0 : decode cX11_isMile 0 = .ok (.iload_n 0, 1) := by decide +kernel
theorem dX11_isMile_1 : decode cX11_isMile 1 = .ok (.iconst 0, 1) := by decide +kernel
theorem dX11_isMile_2 : decode cX11_isMile 2 = .ok (.bipush 8, 2) := by decide +kernel
theorem dX11_isMile_4 : decode cX11_isMile 4 = .ok (.invokestatic 61, 3) := by decide +kernel
theorem dX11_isMile_7 : decode cX11_isMile 7 = .ok (.ireturn, 1) := by decide +kernel
set_option maxRecDepth 20000 in
theorem ggX11_arePoints_X11_isWithin : GoodIn wsX11_arePoints wsX11_isWithin := goodIn_r _ [4] (by decide +kernel) (by decide +kernel)
set_option maxRecDepth 20000 in
theorem gX11_arePoints_X11_isWithin : GoodIn wsX11_arePoints (va_wsS RX11 61 yX11_isWithin wsX11_isWithin) := goodIn_app (goodIn_of _ (by decide +kernel)) ggX11_arePoints_X11_isWithin
theorem dX11_arePoints_0 : decode cX11_arePoints 0 = .ok (.iload_n 0, 1) := by decide +kernel
theorem dX11_arePoints_1 : decode cX11_arePoints 1 = .ok (.iconst 0, 1) := by decide +kernel
theorem dX11_arePoints_2 : decode cX11_arePoints 2 = .ok (.bipush 7, 2) := by decide +kernel
theorem dX11_arePoints_4 : decode cX11_arePoints 4 = .ok (.invokestatic 61, 3) := by decide +kernel
theorem dX11_arePoints_7 : decode cX11_arePoints 7 = .ok (.ifCond .eq 22, 3) := by decide +kernel
theorem dX11_arePoints_10 : decode cX11_arePoints 10 = .ok (.iload_n 1, 1) := by decide +kernel
theorem dX11_arePoints_11 : decode cX11_arePoints 11 = .ok (.iconst 0, 1) := by decide +kernel
theorem dX11_arePoints_12 : decode cX11_arePoints 12 = .ok (.bipush 7, 2) := by decide +kernel
theorem dX11_arePoints_14 : decode cX11_arePoints 14 = .ok (.invokestatic 61, 3) := by decide +kernel
theorem dX11_arePoints_17 : decode cX11_arePoints 17 = .ok (.ifCond .eq 12, 3) := by decide +kernel
theorem dX11_arePoints_20 : decode cX11_arePoints 20 = .ok (.iload_n 0, 1) := by decide +kernel
theorem dX11_arePoints_21 : decode cX11_arePoints 21 = .ok (.iload_n 1, 1) := by decide +kernel
theorem dX11_arePoints_22 : decode cX11_arePoints 22 = .ok (.if_icmp .eq 7, 3) := by decide +kernel
theorem dX11_arePoints_25 : decode cX11_arePoints 25 = .ok (.iconst 1, 1) := by decide +kernel
theorem dX11_arePoints_26 : decode cX11_arePoints 26 = .ok (.goto 4, 3) := by decide +kernel
theorem dX11_arePoints_29 : decode cX11_arePoints 29 = .ok (.iconst 0, 1) := by decide +kernel
theorem dX11_arePoints_30 : decode cX11_arePoints 30 = .ok (.ireturn, 1) := by decide +kernel
set_option maxRecDepth 20000 in
theorem ggX11_isSheet_X11_isWithin : GoodIn wsX11_isSheet wsX11_isWithin := goodIn_r _ [4] (by decide +kernel) (by decide +kernel)
set_option maxRecDepth 20000 in
theorem gX11_isSheet_X11_isWithin : GoodIn wsX11_isSheet (va_wsS RX11 61 yX11_isWithin wsX11_isWithin) := goodIn_app (goodIn_of _ (by decide +kernel)) ggX11_isSheet_X11_isWithin
theorem dX11_isSheet_0 : decode cX11_isSheet 0 = .ok (.iload_n 0, 1) := by decide +kernel
theorem dX11_isSheet_1 : decode cX11_isSheet 1 = .ok (.iconst 0, 1) := by decide +kernel
theorem dX11_isSheet_2 : decode cX11_isSheet 2 = .ok (.iconst 3, 1) := by decide +kernel
theorem dX11_isSheet_3 : decode cX11_isSheet 3 = .ok (.invokestatic 61, 3) := by decide +kernel
theorem dX11_isSheet_6 : decode cX11_isSheet 6 = .ok (.ireturn, 1) := by decide +kernel
set_option maxRecDepth 20000 in
theorem ggX11_isLane_X11_isWithin : GoodIn wsX11_isLane wsX11_isWithin := goodIn_r _ [4] (by decide +kernel) (by decide +kernel)
set_option maxRecDepth 20000 in
theorem gX11_isLane_X11_isWithin : GoodIn wsX11_isLane (va_wsS RX11 61 yX11_isWithin wsX11_isWithin) := goodIn_app (goodIn_of _ (by decide +kernel)) ggX11_isLane_X11_isWithin
theorem dX11_isLane_0 : decode cX11_isLane 0 = .ok (.iload_n 0, 1) := by decide +kernel
theorem dX11_isLane_1 : decode cX11_isLane 1 = .ok (.iconst 0, 1) := by decide +kernel
theorem dX11_isLane_2 : decode cX11_isLane 2 = .ok (.iconst 2, 1) := by decide +kernel
theorem dX11_isLane_3 : decode cX11_isLane 3 = .ok (.invokestatic 61, 3) := by decide +kernel
theorem dX11_isLane_6 : decode cX11_isLane 6 = .ok (.ireturn, 1) := by decide +kernel
set_option maxRecDepth 20000 in
theorem ggX11_isWalk_X11_isWithin : GoodIn wsX11_isWalk wsX11_isWithin := goodIn_r _ [5] (by decide +kernel) (by decide +kernel)
set_option maxRecDepth 20000 in
theorem gX11_isWalk_X11_isWithin : GoodIn wsX11_isWalk (va_wsS RX11 61 yX11_isWithin wsX11_isWithin) := goodIn_app (goodIn_of _ (by decide +kernel)) ggX11_isWalk_X11_isWithin
set_option maxRecDepth 20000 in
theorem ggX11_isWalk_X10_isPerson : GoodIn wsX11_isWalk wsX10_isPerson := goodIn_r _ [10, 11, 3, 4, 5, 44, 45, 46, 47, 48, 49, 50, 51, 52] (by decide +kernel) (by decide +kernel)
set_option maxRecDepth 20000 in
theorem gX11_isWalk_X10_isPerson : GoodIn wsX11_isWalk (wsV RX11 69 RX10 yX10_isPerson wsX10_isPerson) := goodIn_app (goodIn_of _ (by decide +kernel)) ggX11_isWalk_X10_isPerson
set_option maxRecDepth 20000 in
theorem ggX11_isWalk_X10_areWorn : GoodIn wsX11_isWalk wsX10_areWorn := goodIn_r _ [15, 16, 17, 18, 19, 20, 21, 9, 22, 23, 24, 25, 26, 27, 28, 29, 30, 31, 32, 33, 34, 3, 4, 5, 44, 45, 46, 47, 48, 49, 50, 51, 52, 53, 54, 55, 56, 57, 58, 59, 60] (by decide +kernel) (by decide +kernel)
set_option maxRecDepth 20000 in
theorem gX11_isWalk_X10_areWorn : GoodIn wsX11_isWalk (wsV RX11 336 RX10 yX10_areWorn wsX10_areWorn) := goodIn_app (goodIn_of _ (by decide +kernel)) ggX11_isWalk_X10_areWorn
theorem dX11_isWalk_0 : decode cX11_isWalk 0 = .ok (.iload 5, 2) := by decide +kernel
theorem dX11_isWalk_2 : decode cX11_isWalk 2 = .ok (.iconst 1, 1) := by decide +kernel
theorem dX11_isWalk_3 : decode cX11_isWalk 3 = .ok (.sipush 999, 3) := by decide +kernel
theorem dX11_isWalk_6 : decode cX11_isWalk 6 = .ok (.invokestatic 61, 3) := by decide +kernel
theorem dX11_isWalk_9 : decode cX11_isWalk 9 = .ok (.ifCond .eq 33, 3) := by decide +kernel
theorem dX11_isWalk_12 : decode cX11_isWalk 12 = .ok (.aload_n 0, 1) := by decide +kernel
theorem dX11_isWalk_13 : decode cX11_isWalk 13 = .ok (.getfield 10, 3) := by decide +kernel
theorem dX11_isWalk_16 : decode cX11_isWalk 16 = .ok (.iload_n 1, 1) := by decide +kernel
theorem dX11_isWalk_17 : decode cX11_isWalk 17 = .ok (.invokevirtual 69, 3) := by decide +kernel
theorem dX11_isWalk_20 : decode cX11_isWalk 20 = .ok (.ifCond .eq 22, 3) := by decide +kernel
theorem dX11_isWalk_23 : decode cX11_isWalk 23 = .ok (.aload_n 0, 1) := by decide +kernel
theorem dX11_isWalk_24 : decode cX11_isWalk 24 = .ok (.getfield 10, 3) := by decide +kernel
theorem dX11_isWalk_27 : decode cX11_isWalk 27 = .ok (.iload_n 1, 1) := by decide +kernel
theorem dX11_isWalk_28 : decode cX11_isWalk 28 = .ok (.iload_n 2, 1) := by decide +kernel
theorem dX11_isWalk_29 : decode cX11_isWalk 29 = .ok (.iload_n 3, 1) := by decide +kernel
theorem dX11_isWalk_30 : decode cX11_isWalk 30 = .ok (.iload 4, 2) := by decide +kernel
theorem dX11_isWalk_32 : decode cX11_isWalk 32 = .ok (.invokevirtual 336, 3) := by decide +kernel
theorem dX11_isWalk_35 : decode cX11_isWalk 35 = .ok (.ifCond .eq 7, 3) := by decide +kernel
theorem dX11_isWalk_38 : decode cX11_isWalk 38 = .ok (.iconst 1, 1) := by decide +kernel
theorem dX11_isWalk_39 : decode cX11_isWalk 39 = .ok (.goto 4, 3) := by decide +kernel
theorem dX11_isWalk_42 : decode cX11_isWalk 42 = .ok (.iconst 0, 1) := by decide +kernel
theorem dX11_isWalk_43 : decode cX11_isWalk 43 = .ok (.ireturn, 1) := by decide +kernel
set_option maxRecDepth 20000 in
theorem ggX11_readTrail_X11_isSheet : GoodIn wsX11_readTrail wsX11_isSheet := goodIn_r _ [7, 8, 9, 6, 10] (by decide +kernel) (by decide +kernel)
set_option maxRecDepth 20000 in
theorem gX11_readTrail_X11_isSheet : GoodIn wsX11_readTrail (va_wsS RX11 293 yX11_isSheet wsX11_isSheet) := goodIn_app (goodIn_of _ (by decide +kernel)) ggX11_readTrail_X11_isSheet
set_option maxRecDepth 20000 in
theorem ggX11_readTrail_X11_isLane : GoodIn wsX11_readTrail wsX11_isLane := goodIn_r _ [13, 8, 9, 6, 10] (by decide +kernel) (by decide +kernel)
set_option maxRecDepth 20000 in
theorem gX11_readTrail_X11_isLane : GoodIn wsX11_readTrail (va_wsS RX11 296 yX11_isLane wsX11_isLane) := goodIn_app (goodIn_of _ (by decide +kernel)) ggX11_readTrail_X11_isLane
set_option maxRecDepth 20000 in
theorem ggX11_readTrail_X11_isWithin : GoodIn wsX11_readTrail wsX11_isWithin := goodIn_r _ [10] (by decide +kernel) (by decide +kernel)
set_option maxRecDepth 20000 in
theorem gX11_readTrail_X11_isWithin : GoodIn wsX11_readTrail (va_wsS RX11 61 yX11_isWithin wsX11_isWithin) := goodIn_app (goodIn_of _ (by decide +kernel)) ggX11_readTrail_X11_isWithin
set_option maxRecDepth 20000 in
theorem ggX11_readTrail_X10_isPerson : GoodIn wsX11_readTrail wsX10_isPerson := goodIn_r _ [18, 19, 9, 6, 10, 52, 53, 54, 55, 56, 57, 58, 59, 60] (by decide +kernel) (by decide +kernel)
set_option maxRecDepth 20000 in
theorem gX11_readTrail_X10_isPerson : GoodIn wsX11_readTrail (wsV RX11 69 RX10 yX10_isPerson wsX10_isPerson) := goodIn_app (goodIn_of _ (by decide +kernel)) ggX11_readTrail_X10_isPerson
set_option maxRecDepth 20000 in
theorem ggX11_readTrail_X4_refusal : GoodIn wsX11_readTrail wsX4_refusal := goodIn_r _ [24, 25, 26, 27, 28, 23, 29, 30, 31, 32, 33, 34, 61, 62, 63] (by decide +kernel) (by decide +kernel)
set_option maxRecDepth 20000 in
theorem gX11_readTrail_X4_refusal : GoodIn wsX11_readTrail (wsV RX11 299 RX4 yX4_refusal wsX4_refusal) := goodIn_app (goodIn_of _ (by decide +kernel)) ggX11_readTrail_X4_refusal
set_option maxRecDepth 20000 in
theorem ggX11_readTrail_X8_read : GoodIn wsX11_readTrail wsX8_read := goodIn_r _ [39, 40, 41, 42, 9, 6, 10, 64, 65, 61, 62, 63] (by decide +kernel) (by decide +kernel)
set_option maxRecDepth 20000 in
theorem gX11_readTrail_X8_read : GoodIn wsX11_readTrail (wsV RX11 340 RX8 yX8_read wsX8_read) := goodIn_app (goodIn_of _ (by decide +kernel)) ggX11_readTrail_X8_read
theorem dX11_readTrail_0 : decode cX11_readTrail 0 = .ok (.iload_n 1, 1) := by decide +kernel
theorem dX11_readTrail_1 : decode cX11_readTrail 1 = .ok (.invokestatic 293, 3) := by decide +kernel
theorem dX11_readTrail_4 : decode cX11_readTrail 4 = .ok (.ifCond .eq 33, 3) := by decide +kernel
theorem dX11_readTrail_7 : decode cX11_readTrail 7 = .ok (.iload_n 2, 1) := by decide +kernel
theorem dX11_readTrail_8 : decode cX11_readTrail 8 = .ok (.invokestatic 296, 3) := by decide +kernel
theorem dX11_readTrail_11 : decode cX11_readTrail 11 = .ok (.ifCond .eq 26, 3) := by decide +kernel
theorem dX11_readTrail_14 : decode cX11_readTrail 14 = .ok (.iload 4, 2) := by decide +kernel
theorem dX11_readTrail_16 : decode cX11_readTrail 16 = .ok (.iconst 1, 1) := by decide +kernel
theorem dX11_readTrail_17 : decode cX11_readTrail 17 = .ok (.bipush 12, 2) := by decide +kernel
theorem dX11_readTrail_19 : decode cX11_readTrail 19 = .ok (.invokestatic 61, 3) := by decide +kernel
theorem dX11_readTrail_22 : decode cX11_readTrail 22 = .ok (.ifCond .eq 15, 3) := by decide +kernel
theorem dX11_readTrail_25 : decode cX11_readTrail 25 = .ok (.aload_n 0, 1) := by decide +kernel
theorem dX11_readTrail_26 : decode cX11_readTrail 26 = .ok (.getfield 10, 3) := by decide +kernel
theorem dX11_readTrail_29 : decode cX11_readTrail 29 = .ok (.iload 5, 2) := by decide +kernel
theorem dX11_readTrail_31 : decode cX11_readTrail 31 = .ok (.invokevirtual 69, 3) := by decide +kernel
theorem dX11_readTrail_34 : decode cX11_readTrail 34 = .ok (.ifCond .ne 5, 3) := by decide +kernel
theorem dX11_readTrail_37 : decode cX11_readTrail 37 = .ok (.iconst (-1), 1) := by decide +kernel
theorem dX11_readTrail_38 : decode cX11_readTrail 38 = .ok (.ireturn, 1) := by decide +kernel
theorem dX11_readTrail_39 : decode cX11_readTrail 39 = .ok (.aload_n 0, 1) := by decide +kernel
theorem dX11_readTrail_40 : decode cX11_readTrail 40 = .ok (.getfield 56, 3) := by decide +kernel
theorem dX11_readTrail_43 : decode cX11_readTrail 43 = .ok (.iload_n 1, 1) := by decide +kernel
theorem dX11_readTrail_44 : decode cX11_readTrail 44 = .ok (.aaload, 1) := by decide +kernel
theorem dX11_readTrail_45 : decode cX11_readTrail 45 = .ok (.iload_n 2, 1) := by decide +kernel
theorem dX11_readTrail_46 : decode cX11_readTrail 46 = .ok (.iload_n 3, 1) := by decide +kernel
theorem dX11_readTrail_47 : decode cX11_readTrail 47 = .ok (.iload 4, 2) := by decide +kernel
theorem dX11_readTrail_49 : decode cX11_readTrail 49 = .ok (.invokevirtual 299, 3) := by decide +kernel
theorem dX11_readTrail_52 : decode cX11_readTrail 52 = .ok (.istore 6, 2) := by decide +kernel
theorem dX11_readTrail_54 : decode cX11_readTrail 54 = .ok (.iload 6, 2) := by decide +kernel
theorem dX11_readTrail_56 : decode cX11_readTrail 56 = .ok (.ifCond .ge 6, 3) := by decide +kernel
theorem dX11_readTrail_59 : decode cX11_readTrail 59 = .ok (.iload 6, 2) := by decide +kernel
theorem dX11_readTrail_61 : decode cX11_readTrail 61 = .ok (.ireturn, 1) := by decide +kernel
theorem dX11_readTrail_62 : decode cX11_readTrail 62 = .ok (.aload_n 0, 1) := by decide +kernel
theorem dX11_readTrail_63 : decode cX11_readTrail 63 = .ok (.getfield 50, 3) := by decide +kernel
theorem dX11_readTrail_66 : decode cX11_readTrail 66 = .ok (.aload_n 0, 1) := by decide +kernel
theorem dX11_readTrail_67 : decode cX11_readTrail 67 = .ok (.getfield 56, 3) := by decide +kernel
theorem dX11_readTrail_70 : decode cX11_readTrail 70 = .ok (.iload_n 1, 1) := by decide +kernel
theorem dX11_readTrail_71 : decode cX11_readTrail 71 = .ok (.aaload, 1) := by decide +kernel
theorem dX11_readTrail_72 : decode cX11_readTrail 72 = .ok (.iload_n 3, 1) := by decide +kernel
theorem dX11_readTrail_73 : decode cX11_readTrail 73 = .ok (.iload 4, 2) := by decide +kernel
theorem dX11_readTrail_75 : decode cX11_readTrail 75 = .ok (.invokevirtual 340, 3) := by decide +kernel
theorem dX11_readTrail_78 : decode cX11_readTrail 78 = .ok (.ifCond .eq 7, 3) := by decide +kernel
theorem dX11_readTrail_81 : decode cX11_readTrail 81 = .ok (.iconst 0, 1) := by decide +kernel
theorem dX11_readTrail_82 : decode cX11_readTrail 82 = .ok (.goto 5, 3) := by decide +kernel
theorem dX11_readTrail_85 : decode cX11_readTrail 85 = .ok (.bipush (-2), 2) := by decide +kernel
theorem dX11_readTrail_87 : decode cX11_readTrail 87 = .ok (.ireturn, 1) := by decide +kernel
set_option maxRecDepth 20000 in
theorem ggX11_partOf_X11_greatestDivisor : GoodIn wsX11_partOf wsX11_greatestDivisor := goodIn_r _ [4] (by decide +kernel) (by decide +kernel)
set_option maxRecDepth 20000 in
theorem gX11_partOf_X11_greatestDivisor : GoodIn wsX11_partOf (va_wsS RX11 343 yX11_greatestDivisor wsX11_greatestDivisor) := goodIn_app (goodIn_of _ (by decide +kernel)) ggX11_partOf_X11_greatestDivisor
theorem dX11_partOf_0 : decode cX11_partOf 0 = .ok (.iload_n 0, 1) := by decide +kernel
theorem dX11_partOf_1 : decode cX11_partOf 1 = .ok (.iload_n 1, 1) := by decide +kernel
theorem dX11_partOf_2 : decode cX11_partOf 2 = .ok (.invokestatic 343, 3) := by decide +kernel
theorem dX11_partOf_5 : decode cX11_partOf 5 = .ok (.istore_n 3, 1) := by decide +kernel
theorem dX11_partOf_6 : decode cX11_partOf 6 = .ok (.iload_n 3, 1) := by decide +kernel
theorem dX11_partOf_7 : decode cX11_partOf 7 = .ok (.ifCond .ne 5, 3) := by decide +kernel
theorem dX11_partOf_10 : decode cX11_partOf 10 = .ok (.iconst 0, 1) := by decide +kernel
theorem dX11_partOf_11 : decode cX11_partOf 11 = .ok (.ireturn, 1) := by decide +kernel
theorem dX11_partOf_12 : decode cX11_partOf 12 = .ok (.iload_n 2, 1) := by decide +kernel
theorem dX11_partOf_13 : decode cX11_partOf 13 = .ok (.ifCond .ne 7, 3) := by decide +kernel
theorem dX11_partOf_16 : decode cX11_partOf 16 = .ok (.iload_n 0, 1) := by decide +kernel
theorem dX11_partOf_17 : decode cX11_partOf 17 = .ok (.goto 4, 3) := by decide +kernel
theorem dX11_partOf_20 : decode cX11_partOf 20 = .ok (.iload_n 1, 1) := by decide +kernel
theorem dX11_partOf_21 : decode cX11_partOf 21 = .ok (.iload_n 3, 1) := by decide +kernel
theorem dX11_partOf_22 : decode cX11_partOf 22 = .ok (.idiv, 1) := by decide +kernel
theorem dX11_partOf_23 : decode cX11_partOf 23 = .ok (.ireturn, 1) := by decide +kernel
theorem dX11_greatestDivisor_0 : decode cX11_greatestDivisor 0 = .ok (.iload_n 0, 1) := by decide +kernel
theorem dX11_greatestDivisor_1 : decode cX11_greatestDivisor 1 = .ok (.istore_n 2, 1) := by decide +kernel
theorem dX11_greatestDivisor_2 : decode cX11_greatestDivisor 2 = .ok (.iload_n 1, 1) := by decide +kernel
theorem dX11_greatestDivisor_3 : decode cX11_greatestDivisor 3 = .ok (.istore_n 3, 1) := by decide +kernel
theorem dX11_greatestDivisor_4 : decode cX11_greatestDivisor 4 = .ok (.iconst 0, 1) := by decide +kernel
theorem dX11_greatestDivisor_5 : decode cX11_greatestDivisor 5 = .ok (.istore 4, 2) := by decide +kernel
theorem dX11_greatestDivisor_7 : decode cX11_greatestDivisor 7 = .ok (.iload 4, 2) := by decide +kernel
theorem dX11_greatestDivisor_9 : decode cX11_greatestDivisor 9 = .ok (.bipush 64, 2) := by decide +kernel
theorem dX11_greatestDivisor_11 : decode cX11_greatestDivisor 11 = .ok (.if_icmp .ge 23, 3) := by decide +kernel
theorem dX11_greatestDivisor_14 : decode cX11_greatestDivisor 14 = .ok (.iload_n 3, 1) := by decide +kernel
theorem dX11_greatestDivisor_15 : decode cX11_greatestDivisor 15 = .ok (.ifCond .eq 19, 3) := by decide +kernel
theorem dX11_greatestDivisor_18 : decode cX11_greatestDivisor 18 = .ok (.iload_n 2, 1) := by decide +kernel
theorem dX11_greatestDivisor_19 : decode cX11_greatestDivisor 19 = .ok (.iload_n 3, 1) := by decide +kernel
theorem dX11_greatestDivisor_20 : decode cX11_greatestDivisor 20 = .ok (.irem, 1) := by decide +kernel
theorem dX11_greatestDivisor_21 : decode cX11_greatestDivisor 21 = .ok (.istore 5, 2) := by decide +kernel
theorem dX11_greatestDivisor_23 : decode cX11_greatestDivisor 23 = .ok (.iload_n 3, 1) := by decide +kernel
theorem dX11_greatestDivisor_24 : decode cX11_greatestDivisor 24 = .ok (.istore_n 2, 1) := by decide +kernel
theorem dX11_greatestDivisor_25 : decode cX11_greatestDivisor 25 = .ok (.iload 5, 2) := by decide +kernel
theorem dX11_greatestDivisor_27 : decode cX11_greatestDivisor 27 = .ok (.istore_n 3, 1) := by decide +kernel
theorem dX11_greatestDivisor_28 : decode cX11_greatestDivisor 28 = .ok (.iinc 4 1, 3) := by decide +kernel
theorem dX11_greatestDivisor_31 : decode cX11_greatestDivisor 31 = .ok (.goto (-24), 3) := by decide +kernel
theorem dX11_greatestDivisor_34 : decode cX11_greatestDivisor 34 = .ok (.iload_n 2, 1) := by decide +kernel
theorem dX11_greatestDivisor_35 : decode cX11_greatestDivisor 35 = .ok (.ireturn, 1) := by decide +kernel
theorem dX12_init_0 : decode cX12_init 0 = .ok (.aload_n 0, 1) := by decide +kernel
theorem dX12_init_1 : decode cX12_init 1 = .ok (.invokespecial 1, 3) := by decide +kernel
theorem dX12_init_4 : decode cX12_init 4 = .ok (.aload_n 0, 1) := by decide +kernel
theorem dX12_init_5 : decode cX12_init 5 = .ok (.sipush 193, 3) := by decide +kernel
theorem dX12_init_8 : decode cX12_init 8 = .ok (.newarray .int, 2) := by decide +kernel
theorem dX12_init_10 : decode cX12_init 10 = .ok (.putfield 7, 3) := by decide +kernel
theorem dX12_init_13 : decode cX12_init 13 = .ok (.aload_n 0, 1) := by decide +kernel
theorem dX12_init_14 : decode cX12_init 14 = .ok (.sipush 193, 3) := by decide +kernel
theorem dX12_init_17 : decode cX12_init 17 = .ok (.newarray .int, 2) := by decide +kernel
theorem dX12_init_19 : decode cX12_init 19 = .ok (.putfield 13, 3) := by decide +kernel
theorem dX12_init_22 : decode cX12_init 22 = .ok (.aload_n 0, 1) := by decide +kernel
theorem dX12_init_23 : decode cX12_init 23 = .ok (.bipush 60, 2) := by decide +kernel
theorem dX12_init_25 : decode cX12_init 25 = .ok (.newarray .int, 2) := by decide +kernel
theorem dX12_init_27 : decode cX12_init 27 = .ok (.putfield 16, 3) := by decide +kernel
theorem dX12_init_30 : decode cX12_init 30 = .ok (.aload_n 0, 1) := by decide +kernel
theorem dX12_init_31 : decode cX12_init 31 = .ok (.iconst 4, 1) := by decide +kernel
theorem dX12_init_32 : decode cX12_init 32 = .ok (.newarray .int, 2) := by decide +kernel
theorem dX12_init_34 : decode cX12_init 34 = .ok (.putfield 19, 3) := by decide +kernel
theorem dX12_init_37 : decode cX12_init 37 = .ok (.aload_n 0, 1) := by decide +kernel
theorem dX12_init_38 : decode cX12_init 38 = .ok (.iconst 4, 1) := by decide +kernel
theorem dX12_init_39 : decode cX12_init 39 = .ok (.newarray .int, 2) := by decide +kernel
theorem dX12_init_41 : decode cX12_init 41 = .ok (.putfield 22, 3) := by decide +kernel
theorem dX12_init_44 : decode cX12_init 44 = .ok (.aload_n 0, 1) := by decide +kernel
theorem dX12_init_45 : decode cX12_init 45 = .ok (.bipush 96, 2) := by decide +kernel
theorem dX12_init_47 : decode cX12_init 47 = .ok (.newarray .int, 2) := by decide +kernel
theorem dX12_init_49 : decode cX12_init 49 = .ok (.putfield 25, 3) := by decide +kernel
theorem dX12_init_52 : decode cX12_init 52 = .ok (.aload_n 0, 1) := by decide +kernel
theorem dX12_init_53 : decode cX12_init 53 = .ok (.bipush 18, 2) := by decide +kernel
theorem dX12_init_55 : decode cX12_init 55 = .ok (.newarray .int, 2) := by decide +kernel
theorem dX12_init_57 : decode cX12_init 57 = .ok (.putfield 28, 3) := by decide +kernel
theorem dX12_init_60 : decode cX12_init 60 = .ok (.aload_n 0, 1) := by decide +kernel
theorem dX12_init_61 : decode cX12_init 61 = .ok (.bipush 9, 2) := by decide +kernel
theorem dX12_init_63 : decode cX12_init 63 = .ok (.newarray .int, 2) := by decide +kernel
theorem dX12_init_65 : decode cX12_init 65 = .ok (.putfield 31, 3) := by decide +kernel
theorem dX12_init_68 : decode cX12_init 68 = .ok (.aload_n 0, 1) := by decide +kernel
theorem dX12_init_69 : decode cX12_init 69 = .ok (.bipush 10, 2) := by decide +kernel
theorem dX12_init_71 : decode cX12_init 71 = .ok (.newarray .int, 2) := by decide +kernel
theorem dX12_init_73 : decode cX12_init 73 = .ok (.putfield 34, 3) := by decide +kernel
theorem dX12_init_76 : decode cX12_init 76 = .ok (.aload_n 0, 1) := by decide +kernel
theorem dX12_init_77 : decode cX12_init 77 = .ok (.bipush 10, 2) := by decide +kernel
theorem dX12_init_79 : decode cX12_init 79 = .ok (.newarray .int, 2) := by decide +kernel
theorem dX12_init_81 : decode cX12_init 81 = .ok (.putfield 37, 3) := by decide +kernel
theorem dX12_init_84 : decode cX12_init 84 = .ok (.aload_n 0, 1) := by decide +kernel
theorem dX12_init_85 : decode cX12_init 85 = .ok (.bipush 10, 2) := by decide +kernel
theorem dX12_init_87 : decode cX12_init 87 = .ok (.newarray .int, 2) := by decide +kernel
theorem dX12_init_89 : decode cX12_init 89 = .ok (.putfield 40, 3) := by decide +kernel
theorem dX12_init_92 : decode cX12_init 92 = .ok (.aload_n 0, 1) := by decide +kernel
theorem dX12_init_93 : decode cX12_init 93 = .ok (.bipush 10, 2) := by decide +kernel
theorem dX12_init_95 : decode cX12_init 95 = .ok (.newarray .int, 2) := by decide +kernel
theorem dX12_init_97 : decode cX12_init 97 = .ok (.putfield 43, 3) := by decide +kernel
theorem dX12_init_100 : decode cX12_init 100 = .ok (.aload_n 0, 1) := by decide +kernel
theorem dX12_init_101 : decode cX12_init 101 = .ok (.bipush 10, 2) := by decide +kernel
theorem dX12_init_103 : decode cX12_init 103 = .ok (.newarray .int, 2) := by decide +kernel
theorem dX12_init_105 : decode cX12_init 105 = .ok (.putfield 46, 3) := by decide +kernel
theorem dX12_init_108 : decode cX12_init 108 = .ok (.aload_n 0, 1) := by decide +kernel
theorem dX12_init_109 : decode cX12_init 109 = .ok (.bipush 10, 2) := by decide +kernel
theorem dX12_init_111 : decode cX12_init 111 = .ok (.newarray .int, 2) := by decide +kernel
theorem dX12_init_113 : decode cX12_init 113 = .ok (.putfield 49, 3) := by decide +kernel
theorem dX12_init_116 : decode cX12_init 116 = .ok (.aload_n 0, 1) := by decide +kernel
theorem dX12_init_117 : decode cX12_init 117 = .ok (.bipush 10, 2) := by decide +kernel
theorem dX12_init_119 : decode cX12_init 119 = .ok (.newarray .int, 2) := by decide +kernel
theorem dX12_init_121 : decode cX12_init 121 = .ok (.putfield 52, 3) := by decide +kernel
theorem dX12_init_124 : decode cX12_init 124 = .ok (.aload_n 0, 1) := by decide +kernel
theorem dX12_init_125 : decode cX12_init 125 = .ok (.bipush 9, 2) := by decide +kernel
theorem dX12_init_127 : decode cX12_init 127 = .ok (.newarray .int, 2) := by decide +kernel
theorem dX12_init_129 : decode cX12_init 129 = .ok (.putfield 55, 3) := by decide +kernel
theorem dX12_init_132 : decode cX12_init 132 = .ok (.aload_n 0, 1) := by decide +kernel
theorem dX12_init_133 : decode cX12_init 133 = .ok (.bipush 8, 2) := by decide +kernel
theorem dX12_init_135 : decode cX12_init 135 = .ok (.newarray .int, 2) := by decide +kernel
theorem dX12_init_137 : decode cX12_init 137 = .ok (.putfield 58, 3) := by decide +kernel
theorem dX12_init_140 : decode cX12_init 140 = .ok (.aload_n 0, 1) := by decide +kernel
theorem dX12_init_141 : decode cX12_init 141 = .ok (.bipush 8, 2) := by decide +kernel
theorem dX12_init_143 : decode cX12_init 143 = .ok (.newarray .int, 2) := by decide +kernel
theorem dX12_init_145 : decode cX12_init 145 = .ok (.putfield 61, 3) := by decide +kernel
theorem dX12_init_148 : decode cX12_init 148 = .ok (.aload_n 0, 1) := by decide +kernel
theorem dX12_init_149 : decode cX12_init 149 = .ok (.bipush 16, 2) := by decide +kernel
theorem dX12_init_151 : decode cX12_init 151 = .ok (.newarray .int, 2) := by decide +kernel
theorem dX12_init_153 : decode cX12_init 153 = .ok (.putfield 64, 3) := by decide +kernel
theorem dX12_init_156 : decode cX12_init 156 = .ok (.iconst 0, 1) := by decide +kernel
theorem dX12_init_157 : decode cX12_init 157 = .ok (.istore_n 1, 1) := by decide +kernel
theorem dX12_init_158 : decode cX12_init 158 = .ok (.iload_n 1, 1) := by decide +kernel
theorem dX12_init_159 : decode cX12_init 159 = .ok (.bipush 64, 2) := by decide +kernel
theorem dX12_init_161 : decode cX12_init 161 = .ok (.if_icmp .ge 19, 3) := by decide +kernel
theorem dX12_init_164 : decode cX12_init 164 = .ok (.aload_n 0, 1) := by decide +kernel
theorem dX12_init_165 : decode cX12_init 165 = .ok (.getfield 7, 3) := by decide +kernel
theorem dX12_init_168 : decode cX12_init 168 = .ok (.bipush 117, 2) := by decide +kernel
theorem dX12_init_170 : decode cX12_init 170 = .ok (.iload_n 1, 1) := by decide +kernel
theorem dX12_init_171 : decode cX12_init 171 = .ok (.iadd, 1) := by decide +kernel
theorem dX12_init_172 : decode cX12_init 172 = .ok (.iconst (-1), 1) := by decide +kernel
theorem dX12_init_173 : decode cX12_init 173 = .ok (.iastore, 1) := by decide +kernel
theorem dX12_init_174 : decode cX12_init 174 = .ok (.iinc 1 1, 3) := by decide +kernel
theorem dX12_init_177 : decode cX12_init 177 = .ok (.goto (-19), 3) := by decide +kernel
theorem dX12_init_180 : decode cX12_init 180 = .ok (.iconst 0, 1) := by decide +kernel
theorem dX12_init_181 : decode cX12_init 181 = .ok (.istore_n 1, 1) := by decide +kernel
theorem dX12_init_182 : decode cX12_init 182 = .ok (.iload_n 1, 1) := by decide +kernel
theorem dX12_init_183 : decode cX12_init 183 = .ok (.iconst 4, 1) := by decide +kernel
theorem dX12_init_184 : decode cX12_init 184 = .ok (.if_icmp .ge 16, 3) := by decide +kernel
theorem dX12_init_187 : decode cX12_init 187 = .ok (.aload_n 0, 1) := by decide +kernel
theorem dX12_init_188 : decode cX12_init 188 = .ok (.getfield 19, 3) := by decide +kernel
theorem dX12_init_191 : decode cX12_init 191 = .ok (.iload_n 1, 1) := by decide +kernel
theorem dX12_init_192 : decode cX12_init 192 = .ok (.iconst (-1), 1) := by decide +kernel
theorem dX12_init_193 : decode cX12_init 193 = .ok (.iastore, 1) := by decide +kernel
theorem dX12_init_194 : decode cX12_init 194 = .ok (.iinc 1 1, 3) := by decide +kernel
theorem dX12_init_197 : decode cX12_init 197 = .ok (.goto (-15), 3) := by decide +kernel
theorem dX12_init_200 : decode cX12_init 200 = .ok (.return_, 1) := by decide +kernel
theorem dX12_in_0 : decode cX12_in 0 = .ok (.lload_n 0, 1) := by decide +kernel
theorem dX12_in_1 : decode cX12_in 1 = .ok (.lload_n 2, 1) := by decide +kernel
theorem dX12_in_2 : decode cX12_in 2 = .ok (.lcmp, 1) := by decide +kernel
theorem dX12_in_3 : decode cX12_in 3 = .ok (.ifCond .lt 14, 3) := by decide +kernel
theorem dX12_in_6 : decode cX12_in 6 = .ok (.lload_n 0, 1) := by decide +kernel
theorem dX12_in_7 : decode cX12_in 7 = .ok (.lload 4, 2) := by decide +kernel
theorem dX12_in_9 : decode cX12_in 9 = .ok (.lcmp, 1) := by decide +kernel
theorem dX12_in_10 : decode cX12_in 10 = .ok (.ifCond .gt 7, 3) := by decide +kernel
theorem dX12_in_13 : decode cX12_in 13 = .ok (.iconst 1, 1) := by decide +kernel
theorem dX12_in_14 : decode cX12_in 14 = .ok (.goto 4, 3) := by decide +kernel
theorem dX12_in_17 : decode cX12_in 17 = .ok (.iconst 0, 1) := by decide +kernel
theorem dX12_in_18 : decode cX12_in 18 = .ok (.ireturn, 1) := by decide +kernel
set_option maxRecDepth 20000 in
theorem ggX12_isPerson_X12_in : GoodIn wsX12_isPerson wsX12_in := goodIn_r _ [5] (by decide +kernel) (by decide +kernel)
set_option maxRecDepth 20000 in
theorem gX12_isPerson_X12_in : GoodIn wsX12_isPerson (va_wsS RX12 67 yX12_in wsX12_in) := goodIn_app (goodIn_of _ (by decide +kernel)) ggX12_isPerson_X12_in
theorem dX12_isPerson_0 : decode cX12_isPerson 0 = .ok (.iload_n 1, 1) := by decide +kernel
theorem dX12_isPerson_1 : decode cX12_isPerson 1 = .ok (.i2l, 1) := by decide +kernel
theorem dX12_isPerson_2 : decode cX12_isPerson 2 = .ok (.lconst 0, 1) := by decide +kernel
theorem dX12_isPerson_3 : decode cX12_isPerson 3 = .ok (.aload_n 0, 1) := by decide +kernel
theorem dX12_isPerson_4 : decode cX12_isPerson 4 = .ok (.getfield 7, 3) := by decide +kernel
theorem dX12_isPerson_7 : decode cX12_isPerson 7 = .ok (.iconst 0, 1) := by decide +kernel
theorem dX12_isPerson_8 : decode cX12_isPerson 8 = .ok (.iaload, 1) := by decide +kernel
theorem dX12_isPerson_9 : decode cX12_isPerson 9 = .ok (.iconst 1, 1) := by decide +kernel
theorem dX12_isPerson_10 : decode cX12_isPerson 10 = .ok (.isub, 1) := by decide +kernel
theorem dX12_isPerson_11 : decode cX12_isPerson 11 = .ok (.i2l, 1) := by decide +kernel
theorem dX12_isPerson_12 : decode cX12_isPerson 12 = .ok (.invokestatic 67, 3) := by decide +kernel
theorem dX12_isPerson_15 : decode cX12_isPerson 15 = .ok (.ireturn, 1) := by decide +kernel
set_option maxRecDepth 20000 in
theorem ggX12_isShoe_X12_in : GoodIn wsX12_isShoe wsX12_in := goodIn_r _ [5] (by decide +kernel) (by decide +kernel)
set_option maxRecDepth 20000 in
theorem gX12_isShoe_X12_in : GoodIn wsX12_isShoe (va_wsS RX12 67 yX12_in wsX12_in) := goodIn_app (goodIn_of _ (by decide +kernel)) ggX12_isShoe_X12_in
theorem dX12_isShoe_0 : decode cX12_isShoe 0 = .ok (.iload_n 1, 1) := by decide +kernel
theorem dX12_isShoe_1 : decode cX12_isShoe 1 = .ok (.i2l, 1) := by decide +kernel
theorem dX12_isShoe_2 : decode cX12_isShoe 2 = .ok (.lconst 0, 1) := by decide +kernel
theorem dX12_isShoe_3 : decode cX12_isShoe 3 = .ok (.aload_n 0, 1) := by decide +kernel
theorem dX12_isShoe_4 : decode cX12_isShoe 4 = .ok (.getfield 7, 3) := by decide +kernel
theorem dX12_isShoe_7 : decode cX12_isShoe 7 = .ok (.iconst 1, 1) := by decide +kernel
theorem dX12_isShoe_8 : decode cX12_isShoe 8 = .ok (.iaload, 1) := by decide +kernel
theorem dX12_isShoe_9 : decode cX12_isShoe 9 = .ok (.iconst 1, 1) := by decide +kernel
theorem dX12_isShoe_10 : decode cX12_isShoe 10 = .ok (.isub, 1) := by decide +kernel
theorem dX12_isShoe_11 : decode cX12_isShoe 11 = .ok (.i2l, 1) := by decide +kernel
theorem dX12_isShoe_12 : decode cX12_isShoe 12 = .ok (.invokestatic 67, 3) := by decide +kernel
theorem dX12_isShoe_15 : decode cX12_isShoe 15 = .ok (.ireturn, 1) := by decide +kernel
set_option maxRecDepth 20000 in
theorem ggX12_person_X12_in : GoodIn wsX12_person wsX12_in := goodIn_r _ [7] (by decide +kernel) (by decide +kernel)
set_option maxRecDepth 20000 in
theorem gX12_person_X12_in : GoodIn wsX12_person (va_wsS RX12 67 yX12_in wsX12_in) := goodIn_app (goodIn_of _ (by decide +kernel)) ggX12_person_X12_in
theorem dX12_person_0 : decode cX12_person 0 = .ok (.iload_n 1, 1) := by decide +kernel
theorem dX12_person_1 : decode cX12_person 1 = .ok (.i2l, 1) := by decide +kernel
theorem dX12_person_2 : decode cX12_person 2 = .ok (.lconst 0, 1) := by decide +kernel
theorem dX12_person_3 : decode cX12_person 3 = .ok (.ldc2_w 71, 3) := by decide +kernel
theorem dX12_person_6 : decode cX12_person 6 = .ok (.invokestatic 67, 3) := by decide +kernel
theorem dX12_person_9 : decode cX12_person 9 = .ok (.ifCond .eq 15, 3) := by decide +kernel
theorem dX12_person_12 : decode cX12_person 12 = .ok (.iload_n 2, 1) := by decide +kernel
theorem dX12_person_13 : decode cX12_person 13 = .ok (.i2l, 1) := by decide +kernel
theorem dX12_person_14 : decode cX12_person 14 = .ok (.lconst 0, 1) := by decide +kernel
theorem dX12_person_15 : decode cX12_person 15 = .ok (.ldc2_w 73, 3) := by decide +kernel
theorem dX12_person_18 : decode cX12_person 18 = .ok (.invokestatic 67, 3) := by decide +kernel
theorem dX12_person_21 : decode cX12_person 21 = .ok (.ifCond .ne 5, 3) := by decide +kernel
theorem dX12_person_24 : decode cX12_person 24 = .ok (.iconst (-1), 1) := by decide +kernel
theorem dX12_person_25 : decode cX12_person 25 = .ok (.ireturn, 1) := by decide +kernel
theorem dX12_person_26 : decode cX12_person 26 = .ok (.aload_n 0, 1) := by decide +kernel
theorem dX12_person_27 : decode cX12_person 27 = .ok (.getfield 7, 3) := by decide +kernel
theorem dX12_person_30 : decode cX12_person 30 = .ok (.iconst 0, 1) := by decide +kernel
theorem dX12_person_31 : decode cX12_person 31 = .ok (.iaload, 1) := by decide +kernel
theorem dX12_person_32 : decode cX12_person 32 = .ok (.istore_n 3, 1) := by decide +kernel
theorem dX12_person_33 : decode cX12_person 33 = .ok (.iload_n 3, 1) := by decide +kernel
theorem dX12_person_34 : decode cX12_person 34 = .ok (.iconst 5, 1) := by decide +kernel
theorem dX12_person_35 : decode cX12_person 35 = .ok (.if_icmp .ne 6, 3) := by decide +kernel
theorem dX12_person_38 : decode cX12_person 38 = .ok (.bipush (-3), 2) := by decide +kernel
theorem dX12_person_40 : decode cX12_person 40 = .ok (.ireturn, 1) := by decide +kernel
theorem dX12_person_41 : decode cX12_person 41 = .ok (.aload_n 0, 1) := by decide +kernel
theorem dX12_person_42 : decode cX12_person 42 = .ok (.getfield 7, 3) := by decide +kernel
theorem dX12_person_45 : decode cX12_person 45 = .ok (.iconst 5, 1) := by decide +kernel
theorem dX12_person_46 : decode cX12_person 46 = .ok (.iload_n 3, 1) := by decide +kernel
theorem dX12_person_47 : decode cX12_person 47 = .ok (.iadd, 1) := by decide +kernel
theorem dX12_person_48 : decode cX12_person 48 = .ok (.iload_n 1, 1) := by decide +kernel
theorem dX12_person_49 : decode cX12_person 49 = .ok (.iastore, 1) := by decide +kernel
theorem dX12_person_50 : decode cX12_person 50 = .ok (.aload_n 0, 1) := by decide +kernel
theorem dX12_person_51 : decode cX12_person 51 = .ok (.getfield 7, 3) := by decide +kernel
theorem dX12_person_54 : decode cX12_person 54 = .ok (.bipush 10, 2) := by decide +kernel
theorem dX12_person_56 : decode cX12_person 56 = .ok (.iload_n 3, 1) := by decide +kernel
theorem dX12_person_57 : decode cX12_person 57 = .ok (.iadd, 1) := by decide +kernel
theorem dX12_person_58 : decode cX12_person 58 = .ok (.iload_n 2, 1) := by decide +kernel
theorem dX12_person_59 : decode cX12_person 59 = .ok (.iastore, 1) := by decide +kernel
theorem dX12_person_60 : decode cX12_person 60 = .ok (.aload_n 0, 1) := by decide +kernel
theorem dX12_person_61 : decode cX12_person 61 = .ok (.getfield 7, 3) := by decide +kernel
theorem dX12_person_64 : decode cX12_person 64 = .ok (.iconst 0, 1) := by decide +kernel
theorem dX12_person_65 : decode cX12_person 65 = .ok (.iload_n 3, 1) := by decide +kernel
theorem dX12_person_66 : decode cX12_person 66 = .ok (.iconst 1, 1) := by decide +kernel
theorem dX12_person_67 : decode cX12_person 67 = .ok (.iadd, 1) := by decide +kernel
theorem dX12_person_68 : decode cX12_person 68 = .ok (.iastore, 1) := by decide +kernel
theorem dX12_person_69 : decode cX12_person 69 = .ok (.iload_n 3, 1) := by decide +kernel
theorem dX12_person_70 : decode cX12_person 70 = .ok (.ireturn, 1) := by decide +kernel
set_option maxRecDepth 20000 in
theorem ggX12_shoe_X12_isPerson : GoodIn wsX12_shoe wsX12_isPerson := goodIn_r _ [8, 3, 9, 10, 7, 11, 12, 13, 14, 15, 16, 17, 18, 19, 20, 21, 22, 23, 24, 25, 26, 27, 28, 29, 30, 31, 32, 33, 34, 35, 36, 37] (by decide +kernel) (by decide +kernel)
set_option maxRecDepth 20000 in
theorem gX12_shoe_X12_isPerson : GoodIn wsX12_shoe (wsV RX12 75 RX12 yX12_isPerson wsX12_isPerson) := goodIn_app (goodIn_of _ (by decide +kernel)) ggX12_shoe_X12_isPerson
set_option maxRecDepth 20000 in
theorem ggX12_shoe_X12_in : GoodIn wsX12_shoe wsX12_in := goodIn_r _ [11] (by decide +kernel) (by decide +kernel)
set_option maxRecDepth 20000 in
theorem gX12_shoe_X12_in : GoodIn wsX12_shoe (va_wsS RX12 67 yX12_in wsX12_in) := goodIn_app (goodIn_of _ (by decide +kernel)) ggX12_shoe_X12_in
theorem dX12_shoe_0 : decode cX12_shoe 0 = .ok (.aload_n 0, 1) := by decide +kernel
theorem dX12_shoe_1 : decode cX12_shoe 1 = .ok (.iload_n 1, 1) := by decide +kernel
theorem dX12_shoe_2 : decode cX12_shoe 2 = .ok (.invokevirtual 75, 3) := by decide +kernel
theorem dX12_shoe_5 : decode cX12_shoe 5 = .ok (.ifCond .eq 38, 3) := by decide +kernel
theorem dX12_shoe_8 : decode cX12_shoe 8 = .ok (.iload_n 2, 1) := by decide +kernel
theorem dX12_shoe_9 : decode cX12_shoe 9 = .ok (.i2l, 1) := by decide +kernel
theorem dX12_shoe_10 : decode cX12_shoe 10 = .ok (.lconst 0, 1) := by decide +kernel
theorem dX12_shoe_11 : decode cX12_shoe 11 = .ok (.lconst 1, 1) := by decide +kernel
theorem dX12_shoe_12 : decode cX12_shoe 12 = .ok (.invokestatic 67, 3) := by decide +kernel
theorem dX12_shoe_15 : decode cX12_shoe 15 = .ok (.ifCond .eq 28, 3) := by decide +kernel
theorem dX12_shoe_18 : decode cX12_shoe 18 = .ok (.iload_n 3, 1) := by decide +kernel
theorem dX12_shoe_19 : decode cX12_shoe 19 = .ok (.i2l, 1) := by decide +kernel
theorem dX12_shoe_20 : decode cX12_shoe 20 = .ok (.lconst 0, 1) := by decide +kernel
theorem dX12_shoe_21 : decode cX12_shoe 21 = .ok (.ldc2_w 79, 3) := by decide +kernel
theorem dX12_shoe_24 : decode cX12_shoe 24 = .ok (.invokestatic 67, 3) := by decide +kernel
theorem dX12_shoe_27 : decode cX12_shoe 27 = .ok (.ifCond .eq 16, 3) := by decide +kernel
theorem dX12_shoe_30 : decode cX12_shoe 30 = .ok (.iload 4, 2) := by decide +kernel
theorem dX12_shoe_32 : decode cX12_shoe 32 = .ok (.i2l, 1) := by decide +kernel
theorem dX12_shoe_33 : decode cX12_shoe 33 = .ok (.lconst 0, 1) := by decide +kernel
theorem dX12_shoe_34 : decode cX12_shoe 34 = .ok (.ldc2_w 81, 3) := by decide +kernel
theorem dX12_shoe_37 : decode cX12_shoe 37 = .ok (.invokestatic 67, 3) := by decide +kernel
theorem dX12_shoe_40 : decode cX12_shoe 40 = .ok (.ifCond .ne 5, 3) := by decide +kernel
theorem dX12_shoe_43 : decode cX12_shoe 43 = .ok (.iconst (-1), 1) := by decide +kernel
theorem dX12_shoe_44 : decode cX12_shoe 44 = .ok (.ireturn, 1) := by decide +kernel
theorem dX12_shoe_45 : decode cX12_shoe 45 = .ok (.aload_n 0, 1) := by decide +kernel
theorem dX12_shoe_46 : decode cX12_shoe 46 = .ok (.getfield 7, 3) := by decide +kernel
theorem dX12_shoe_49 : decode cX12_shoe 49 = .ok (.iconst 1, 1) := by decide +kernel
theorem dX12_shoe_50 : decode cX12_shoe 50 = .ok (.iaload, 1) := by decide +kernel
theorem dX12_shoe_51 : decode cX12_shoe 51 = .ok (.istore 5, 2) := by decide +kernel
theorem dX12_shoe_53 : decode cX12_shoe 53 = .ok (.iload 5, 2) := by decide +kernel
theorem dX12_shoe_55 : decode cX12_shoe 55 = .ok (.bipush 16, 2) := by decide +kernel
theorem dX12_shoe_57 : decode cX12_shoe 57 = .ok (.if_icmp .ne 6, 3) := by decide +kernel
theorem dX12_shoe_60 : decode cX12_shoe 60 = .ok (.bipush (-3), 2) := by decide +kernel
theorem dX12_shoe_62 : decode cX12_shoe 62 = .ok (.ireturn, 1) := by decide +kernel
theorem dX12_shoe_63 : decode cX12_shoe 63 = .ok (.aload_n 0, 1) := by decide +kernel
theorem dX12_shoe_64 : decode cX12_shoe 64 = .ok (.getfield 7, 3) := by decide +kernel
theorem dX12_shoe_67 : decode cX12_shoe 67 = .ok (.bipush 15, 2) := by decide +kernel
theorem dX12_shoe_69 : decode cX12_shoe 69 = .ok (.iload 5, 2) := by decide +kernel
theorem dX12_shoe_71 : decode cX12_shoe 71 = .ok (.iadd, 1) := by decide +kernel
theorem dX12_shoe_72 : decode cX12_shoe 72 = .ok (.iload_n 1, 1) := by decide +kernel
theorem dX12_shoe_73 : decode cX12_shoe 73 = .ok (.iastore, 1) := by decide +kernel
theorem dX12_shoe_74 : decode cX12_shoe 74 = .ok (.aload_n 0, 1) := by decide +kernel
theorem dX12_shoe_75 : decode cX12_shoe 75 = .ok (.getfield 7, 3) := by decide +kernel
theorem dX12_shoe_78 : decode cX12_shoe 78 = .ok (.bipush 31, 2) := by decide +kernel
theorem dX12_shoe_80 : decode cX12_shoe 80 = .ok (.iload 5, 2) := by decide +kernel
theorem dX12_shoe_82 : decode cX12_shoe 82 = .ok (.iadd, 1) := by decide +kernel
theorem dX12_shoe_83 : decode cX12_shoe 83 = .ok (.iload_n 2, 1) := by decide +kernel
theorem dX12_shoe_84 : decode cX12_shoe 84 = .ok (.iastore, 1) := by decide +kernel
theorem dX12_shoe_85 : decode cX12_shoe 85 = .ok (.aload_n 0, 1) := by decide +kernel
theorem dX12_shoe_86 : decode cX12_shoe 86 = .ok (.getfield 7, 3) := by decide +kernel
theorem dX12_shoe_89 : decode cX12_shoe 89 = .ok (.bipush 47, 2) := by decide +kernel
theorem dX12_shoe_91 : decode cX12_shoe 91 = .ok (.iload 5, 2) := by decide +kernel
theorem dX12_shoe_93 : decode cX12_shoe 93 = .ok (.iadd, 1) := by decide +kernel
theorem dX12_shoe_94 : decode cX12_shoe 94 = .ok (.iload_n 3, 1) := by decide +kernel
theorem dX12_shoe_95 : decode cX12_shoe 95 = .ok (.iastore, 1) := by decide +kernel
theorem dX12_shoe_96 : decode cX12_shoe 96 = .ok (.aload_n 0, 1) := by decide +kernel
theorem dX12_shoe_97 : decode cX12_shoe 97 = .ok (.getfield 7, 3) := by decide +kernel
theorem dX12_shoe_100 : decode cX12_shoe 100 = .ok (.bipush 63, 2) := by decide +kernel
theorem dX12_shoe_102 : decode cX12_shoe 102 = .ok (.iload 5, 2) := by decide +kernel
theorem dX12_shoe_104 : decode cX12_shoe 104 = .ok (.iadd, 1) := by decide +kernel
theorem dX12_shoe_105 : decode cX12_shoe 105 = .ok (.iload 4, 2) := by decide +kernel
theorem dX12_shoe_107 : decode cX12_shoe 107 = .ok (.iastore, 1) := by decide +kernel
theorem dX12_shoe_108 : decode cX12_shoe 108 = .ok (.aload_n 0, 1) := by decide +kernel
theorem dX12_shoe_109 : decode cX12_shoe 109 = .ok (.getfield 7, 3) := by decide +kernel
theorem dX12_shoe_112 : decode cX12_shoe 112 = .ok (.bipush 79, 2) := by decide +kernel
theorem dX12_shoe_114 : decode cX12_shoe 114 = .ok (.iload 5, 2) := by decide +kernel
theorem dX12_shoe_116 : decode cX12_shoe 116 = .ok (.iadd, 1) := by decide +kernel
theorem dX12_shoe_117 : decode cX12_shoe 117 = .ok (.iconst 0, 1) := by decide +kernel
theorem dX12_shoe_118 : decode cX12_shoe 118 = .ok (.iastore, 1) := by decide +kernel
theorem dX12_shoe_119 : decode cX12_shoe 119 = .ok (.aload_n 0, 1) := by decide +kernel
theorem dX12_shoe_120 : decode cX12_shoe 120 = .ok (.getfield 7, 3) := by decide +kernel
theorem dX12_shoe_123 : decode cX12_shoe 123 = .ok (.iconst 1, 1) := by decide +kernel
theorem dX12_shoe_124 : decode cX12_shoe 124 = .ok (.iload 5, 2) := by decide +kernel
theorem dX12_shoe_126 : decode cX12_shoe 126 = .ok (.iconst 1, 1) := by decide +kernel
theorem dX12_shoe_127 : decode cX12_shoe 127 = .ok (.iadd, 1) := by decide +kernel
theorem dX12_shoe_128 : decode cX12_shoe 128 = .ok (.iastore, 1) := by decide +kernel
theorem dX12_shoe_129 : decode cX12_shoe 129 = .ok (.iload 5, 2) := by decide +kernel
theorem dX12_shoe_131 : decode cX12_shoe 131 = .ok (.ireturn, 1) := by decide +kernel
set_option maxRecDepth 20000 in
theorem ggX12_told_X12_isShoe : GoodIn wsX12_told wsX12_isShoe := goodIn_r _ [7, 2, 8, 9, 6, 10, 11, 12, 13, 14, 15, 16, 17, 18, 19, 20, 21, 22, 23, 24, 25, 26, 27, 28, 29, 30, 31, 32, 33, 34, 35, 36] (by decide +kernel) (by decide +kernel)
set_option maxRecDepth 20000 in
theorem gX12_told_X12_isShoe : GoodIn wsX12_told (wsV RX12 83 RX12 yX12_isShoe wsX12_isShoe) := goodIn_app (goodIn_of _ (by decide +kernel)) ggX12_told_X12_isShoe
set_option maxRecDepth 20000 in
theorem ggX12_told_X12_in : GoodIn wsX12_told wsX12_in := goodIn_r _ [10] (by decide +kernel) (by decide +kernel)
set_option maxRecDepth 20000 in
theorem gX12_told_X12_in : GoodIn wsX12_told (va_wsS RX12 67 yX12_in wsX12_in) := goodIn_app (goodIn_of _ (by decide +kernel)) ggX12_told_X12_in
theorem dX12_told_0 : decode cX12_told 0 = .ok (.aload_n 0, 1) := by decide +kernel
theorem dX12_told_1 : decode cX12_told 1 = .ok (.iload_n 1, 1) := by decide +kernel
theorem dX12_told_2 : decode cX12_told 2 = .ok (.invokevirtual 83, 3) := by decide +kernel
theorem dX12_told_5 : decode cX12_told 5 = .ok (.ifCond .eq 15, 3) := by decide +kernel
theorem dX12_told_8 : decode cX12_told 8 = .ok (.iload_n 2, 1) := by decide +kernel
theorem dX12_told_9 : decode cX12_told 9 = .ok (.i2l, 1) := by decide +kernel
theorem dX12_told_10 : decode cX12_told 10 = .ok (.lconst 0, 1) := by decide +kernel
theorem dX12_told_11 : decode cX12_told 11 = .ok (.ldc2_w 86, 3) := by decide +kernel
theorem dX12_told_14 : decode cX12_told 14 = .ok (.invokestatic 67, 3) := by decide +kernel
theorem dX12_told_17 : decode cX12_told 17 = .ok (.ifCond .ne 5, 3) := by decide +kernel
theorem dX12_told_20 : decode cX12_told 20 = .ok (.iconst (-1), 1) := by decide +kernel
theorem dX12_told_21 : decode cX12_told 21 = .ok (.ireturn, 1) := by decide +kernel
theorem dX12_told_22 : decode cX12_told 22 = .ok (.iload_n 2, 1) := by decide +kernel
theorem dX12_told_23 : decode cX12_told 23 = .ok (.ifCond .ne 8, 3) := by decide +kernel
theorem dX12_told_26 : decode cX12_told 26 = .ok (.bipush 31, 2) := by decide +kernel
theorem dX12_told_28 : decode cX12_told 28 = .ok (.goto 35, 3) := by decide +kernel
theorem dX12_told_31 : decode cX12_told 31 = .ok (.iload_n 2, 1) := by decide +kernel
theorem dX12_told_32 : decode cX12_told 32 = .ok (.iconst 1, 1) := by decide +kernel
theorem dX12_told_33 : decode cX12_told 33 = .ok (.if_icmp .ne 8, 3) := by decide +kernel
theorem dX12_told_36 : decode cX12_told 36 = .ok (.bipush 47, 2) := by decide +kernel
theorem dX12_told_38 : decode cX12_told 38 = .ok (.goto 25, 3) := by decide +kernel
theorem dX12_told_41 : decode cX12_told 41 = .ok (.iload_n 2, 1) := by decide +kernel
theorem dX12_told_42 : decode cX12_told 42 = .ok (.iconst 2, 1) := by decide +kernel
theorem dX12_told_43 : decode cX12_told 43 = .ok (.if_icmp .ne 8, 3) := by decide +kernel
theorem dX12_told_46 : decode cX12_told 46 = .ok (.bipush 63, 2) := by decide +kernel
theorem dX12_told_48 : decode cX12_told 48 = .ok (.goto 15, 3) := by decide +kernel
theorem dX12_told_51 : decode cX12_told 51 = .ok (.iload_n 2, 1) := by decide +kernel
theorem dX12_told_52 : decode cX12_told 52 = .ok (.iconst 3, 1) := by decide +kernel
theorem dX12_told_53 : decode cX12_told 53 = .ok (.if_icmp .ne 8, 3) := by decide +kernel
theorem dX12_told_56 : decode cX12_told 56 = .ok (.bipush 79, 2) := by decide +kernel
theorem dX12_told_58 : decode cX12_told 58 = .ok (.goto 5, 3) := by decide +kernel
theorem dX12_told_61 : decode cX12_told 61 = .ok (.bipush 15, 2) := by decide +kernel
theorem dX12_told_63 : decode cX12_told 63 = .ok (.istore_n 3, 1) := by decide +kernel
theorem dX12_told_64 : decode cX12_told 64 = .ok (.aload_n 0, 1) := by decide +kernel
theorem dX12_told_65 : decode cX12_told 65 = .ok (.getfield 7, 3) := by decide +kernel
theorem dX12_told_68 : decode cX12_told 68 = .ok (.iload_n 3, 1) := by decide +kernel
theorem dX12_told_69 : decode cX12_told 69 = .ok (.iload_n 1, 1) := by decide +kernel
theorem dX12_told_70 : decode cX12_told 70 = .ok (.iadd, 1) := by decide +kernel
theorem dX12_told_71 : decode cX12_told 71 = .ok (.iaload, 1) := by decide +kernel
theorem dX12_told_72 : decode cX12_told 72 = .ok (.ireturn, 1) := by decide +kernel
set_option maxRecDepth 20000 in
theorem ggX12_stamp_X12_isShoe : GoodIn wsX12_stamp wsX12_isShoe := goodIn_r _ [5, 6, 7, 8, 4, 9, 14, 15, 16, 17, 18, 19, 20, 21, 22, 23, 24, 25, 26, 27, 28, 29, 30, 31, 32, 33, 34, 35, 36, 37, 38, 39] (by decide +kernel) (by decide +kernel)
set_option maxRecDepth 20000 in
theorem gX12_stamp_X12_isShoe : GoodIn wsX12_stamp (wsV RX12 83 RX12 yX12_isShoe wsX12_isShoe) := goodIn_app (goodIn_of _ (by decide +kernel)) ggX12_stamp_X12_isShoe
set_option maxRecDepth 20000 in
theorem ggX12_stamp_X12_changed : GoodIn wsX12_stamp wsX12_changed := goodIn_r _ [13, 6, 14, 15, 16, 17, 18, 19, 20, 21, 22, 23, 24, 25, 26, 27, 28, 29, 30, 31, 32, 33, 34, 35, 36, 37, 38, 39] (by decide +kernel) (by decide +kernel)
set_option maxRecDepth 20000 in
theorem gX12_stamp_X12_changed : GoodIn wsX12_stamp (wsV RX12 88 RX12 yX12_changed wsX12_changed) := goodIn_app (goodIn_of _ (by decide +kernel)) ggX12_stamp_X12_changed
theorem dX12_stamp_0 : decode cX12_stamp 0 = .ok (.aload_n 0, 1) := by decide +kernel
theorem dX12_stamp_1 : decode cX12_stamp 1 = .ok (.iload_n 1, 1) := by decide +kernel
theorem dX12_stamp_2 : decode cX12_stamp 2 = .ok (.invokevirtual 83, 3) := by decide +kernel
theorem dX12_stamp_5 : decode cX12_stamp 5 = .ok (.ifCond .ne 5, 3) := by decide +kernel
theorem dX12_stamp_8 : decode cX12_stamp 8 = .ok (.iconst (-1), 1) := by decide +kernel
theorem dX12_stamp_9 : decode cX12_stamp 9 = .ok (.ireturn, 1) := by decide +kernel
theorem dX12_stamp_10 : decode cX12_stamp 10 = .ok (.aload_n 0, 1) := by decide +kernel
theorem dX12_stamp_11 : decode cX12_stamp 11 = .ok (.bipush 79, 2) := by decide +kernel
theorem dX12_stamp_13 : decode cX12_stamp 13 = .ok (.iload_n 1, 1) := by decide +kernel
theorem dX12_stamp_14 : decode cX12_stamp 14 = .ok (.iadd, 1) := by decide +kernel
theorem dX12_stamp_15 : decode cX12_stamp 15 = .ok (.iload_n 2, 1) := by decide +kernel
theorem dX12_stamp_16 : decode cX12_stamp 16 = .ok (.ifCond .eq 7, 3) := by decide +kernel
theorem dX12_stamp_19 : decode cX12_stamp 19 = .ok (.iconst 1, 1) := by decide +kernel
theorem dX12_stamp_20 : decode cX12_stamp 20 = .ok (.goto 4, 3) := by decide +kernel
theorem dX12_stamp_23 : decode cX12_stamp 23 = .ok (.iconst 0, 1) := by decide +kernel
theorem dX12_stamp_24 : decode cX12_stamp 24 = .ok (.invokevirtual 88, 3) := by decide +kernel
theorem dX12_stamp_27 : decode cX12_stamp 27 = .ok (.ireturn, 1) := by decide +kernel
theorem dX12_changed_0 : decode cX12_changed 0 = .ok (.aload_n 0, 1) := by decide +kernel
theorem dX12_changed_1 : decode cX12_changed 1 = .ok (.getfield 7, 3) := by decide +kernel
theorem dX12_changed_4 : decode cX12_changed 4 = .ok (.iload_n 1, 1) := by decide +kernel
theorem dX12_changed_5 : decode cX12_changed 5 = .ok (.iaload, 1) := by decide +kernel
theorem dX12_changed_6 : decode cX12_changed 6 = .ok (.istore_n 3, 1) := by decide +kernel
theorem dX12_changed_7 : decode cX12_changed 7 = .ok (.aload_n 0, 1) := by decide +kernel
theorem dX12_changed_8 : decode cX12_changed 8 = .ok (.getfield 7, 3) := by decide +kernel
theorem dX12_changed_11 : decode cX12_changed 11 = .ok (.iload_n 1, 1) := by decide +kernel
theorem dX12_changed_12 : decode cX12_changed 12 = .ok (.iload_n 2, 1) := by decide +kernel
theorem dX12_changed_13 : decode cX12_changed 13 = .ok (.iastore, 1) := by decide +kernel
theorem dX12_changed_14 : decode cX12_changed 14 = .ok (.iload_n 3, 1) := by decide +kernel
theorem dX12_changed_15 : decode cX12_changed 15 = .ok (.ireturn, 1) := by decide +kernel
set_option maxRecDepth 20000 in
theorem ggX12_give_X12_isShoe : GoodIn wsX12_give wsX12_isShoe := goodIn_r _ [5, 6, 7, 8, 4, 9, 18, 19, 20, 21, 22, 23, 24, 25, 26, 27, 28, 29, 30, 31, 32, 33, 34, 35, 36, 37, 38, 39, 40, 41, 42, 43] (by decide +kernel) (by decide +kernel)
set_option maxRecDepth 20000 in
theorem gX12_give_X12_isShoe : GoodIn wsX12_give (wsV RX12 83 RX12 yX12_isShoe wsX12_isShoe) := goodIn_app (goodIn_of _ (by decide +kernel)) ggX12_give_X12_isShoe
set_option maxRecDepth 20000 in
theorem ggX12_give_X12_isPerson : GoodIn wsX12_give wsX12_isPerson := goodIn_r _ [13, 6, 7, 8, 4, 9, 18, 19, 20, 21, 22, 23, 24, 25, 26, 27, 28, 29, 30, 31, 32, 33, 34, 35, 36, 37, 38, 39, 40, 41, 42, 43] (by decide +kernel) (by decide +kernel)
set_option maxRecDepth 20000 in
theorem gX12_give_X12_isPerson : GoodIn wsX12_give (wsV RX12 75 RX12 yX12_isPerson wsX12_isPerson) := goodIn_app (goodIn_of _ (by decide +kernel)) ggX12_give_X12_isPerson
set_option maxRecDepth 20000 in
theorem ggX12_give_X12_changed : GoodIn wsX12_give wsX12_changed := goodIn_r _ [17, 6, 18, 19, 20, 21, 22, 23, 24, 25, 26, 27, 28, 29, 30, 31, 32, 33, 34, 35, 36, 37, 38, 39, 40, 41, 42, 43] (by decide +kernel) (by decide +kernel)
set_option maxRecDepth 20000 in
theorem gX12_give_X12_changed : GoodIn wsX12_give (wsV RX12 88 RX12 yX12_changed wsX12_changed) := goodIn_app (goodIn_of _ (by decide +kernel)) ggX12_give_X12_changed
theorem dX12_give_0 : decode cX12_give 0 = .ok (.aload_n 0, 1) := by decide +kernel
theorem dX12_give_1 : decode cX12_give 1 = .ok (.iload_n 1, 1) := by decide +kernel
theorem dX12_give_2 : decode cX12_give 2 = .ok (.invokevirtual 83, 3) := by decide +kernel
theorem dX12_give_5 : decode cX12_give 5 = .ok (.ifCond .eq 23, 3) := by decide +kernel
theorem dX12_give_8 : decode cX12_give 8 = .ok (.aload_n 0, 1) := by decide +kernel
theorem dX12_give_9 : decode cX12_give 9 = .ok (.iload_n 2, 1) := by decide +kernel
theorem dX12_give_10 : decode cX12_give 10 = .ok (.invokevirtual 75, 3) := by decide +kernel
theorem dX12_give_13 : decode cX12_give 13 = .ok (.ifCond .eq 15, 3) := by decide +kernel
theorem dX12_give_16 : decode cX12_give 16 = .ok (.aload_n 0, 1) := by decide +kernel
theorem dX12_give_17 : decode cX12_give 17 = .ok (.bipush 15, 2) := by decide +kernel
theorem dX12_give_19 : decode cX12_give 19 = .ok (.iload_n 1, 1) := by decide +kernel
theorem dX12_give_20 : decode cX12_give 20 = .ok (.iadd, 1) := by decide +kernel
theorem dX12_give_21 : decode cX12_give 21 = .ok (.iload_n 2, 1) := by decide +kernel
theorem dX12_give_22 : decode cX12_give 22 = .ok (.invokevirtual 88, 3) := by decide +kernel
theorem dX12_give_25 : decode cX12_give 25 = .ok (.goto 4, 3) := by decide +kernel
theorem dX12_give_28 : decode cX12_give 28 = .ok (.iconst (-1), 1) := by decide +kernel
theorem dX12_give_29 : decode cX12_give 29 = .ok (.ireturn, 1) := by decide +kernel
theorem dX12_has_0 : decode cX12_has 0 = .ok (.iconst 0, 1) := by decide +kernel
theorem dX12_has_1 : decode cX12_has 1 = .ok (.istore_n 3, 1) := by decide +kernel
theorem dX12_has_2 : decode cX12_has 2 = .ok (.iconst 0, 1) := by decide +kernel
theorem dX12_has_3 : decode cX12_has 3 = .ok (.istore 4, 2) := by decide +kernel
theorem dX12_has_5 : decode cX12_has 5 = .ok (.iload 4, 2) := by decide +kernel
theorem dX12_has_7 : decode cX12_has 7 = .ok (.aload_n 0, 1) := by decide +kernel
theorem dX12_has_8 : decode cX12_has 8 = .ok (.getfield 7, 3) := by decide +kernel
theorem dX12_has_11 : decode cX12_has 11 = .ok (.iconst 1, 1) := by decide +kernel
theorem dX12_has_12 : decode cX12_has 12 = .ok (.iaload, 1) := by decide +kernel
theorem dX12_has_13 : decode cX12_has 13 = .ok (.if_icmp .ge 45, 3) := by decide +kernel
theorem dX12_has_16 : decode cX12_has 16 = .ok (.iload_n 3, 1) := by decide +kernel
theorem dX12_has_17 : decode cX12_has 17 = .ok (.aload_n 0, 1) := by decide +kernel
theorem dX12_has_18 : decode cX12_has 18 = .ok (.getfield 7, 3) := by decide +kernel
theorem dX12_has_21 : decode cX12_has 21 = .ok (.bipush 15, 2) := by decide +kernel
theorem dX12_has_23 : decode cX12_has 23 = .ok (.iload 4, 2) := by decide +kernel
theorem dX12_has_25 : decode cX12_has 25 = .ok (.iadd, 1) := by decide +kernel
theorem dX12_has_26 : decode cX12_has 26 = .ok (.iaload, 1) := by decide +kernel
theorem dX12_has_27 : decode cX12_has 27 = .ok (.iload_n 1, 1) := by decide +kernel
theorem dX12_has_28 : decode cX12_has 28 = .ok (.if_icmp .ne 21, 3) := by decide +kernel
theorem dX12_has_31 : decode cX12_has 31 = .ok (.aload_n 0, 1) := by decide +kernel
theorem dX12_has_32 : decode cX12_has 32 = .ok (.getfield 7, 3) := by decide +kernel
theorem dX12_has_35 : decode cX12_has 35 = .ok (.bipush 31, 2) := by decide +kernel
theorem dX12_has_37 : decode cX12_has 37 = .ok (.iload 4, 2) := by decide +kernel
theorem dX12_has_39 : decode cX12_has 39 = .ok (.iadd, 1) := by decide +kernel
theorem dX12_has_40 : decode cX12_has 40 = .ok (.iaload, 1) := by decide +kernel
theorem dX12_has_41 : decode cX12_has 41 = .ok (.iload_n 2, 1) := by decide +kernel
theorem dX12_has_42 : decode cX12_has 42 = .ok (.if_icmp .ne 7, 3) := by decide +kernel
theorem dX12_has_45 : decode cX12_has 45 = .ok (.iconst 1, 1) := by decide +kernel
theorem dX12_has_46 : decode cX12_has 46 = .ok (.goto 4, 3) := by decide +kernel
theorem dX12_has_49 : decode cX12_has 49 = .ok (.iconst 0, 1) := by decide +kernel
theorem dX12_has_50 : decode cX12_has 50 = .ok (.iadd, 1) := by decide +kernel
theorem dX12_has_51 : decode cX12_has 51 = .ok (.istore_n 3, 1) := by decide +kernel
theorem dX12_has_52 : decode cX12_has 52 = .ok (.iinc 4 1, 3) := by decide +kernel
theorem dX12_has_55 : decode cX12_has 55 = .ok (.goto (-50), 3) := by decide +kernel
theorem dX12_has_58 : decode cX12_has 58 = .ok (.iload_n 3, 1) := by decide +kernel
theorem dX12_has_59 : decode cX12_has 59 = .ok (.ireturn, 1) := by decide +kernel
set_option maxRecDepth 20000 in
theorem ggX12_of_X12_isPerson : GoodIn wsX12_of wsX12_isPerson := goodIn_r _ [7, 2, 8, 9, 6, 10, 15, 16, 17, 18, 19, 20, 21, 22, 23, 24, 25, 26, 27, 28, 29, 30, 31, 32, 33, 34, 35, 36, 37, 38, 39, 40] (by decide +kernel) (by decide +kernel)
set_option maxRecDepth 20000 in
theorem gX12_of_X12_isPerson : GoodIn wsX12_of (wsV RX12 75 RX12 yX12_isPerson wsX12_isPerson) := goodIn_app (goodIn_of _ (by decide +kernel)) ggX12_of_X12_isPerson
set_option maxRecDepth 20000 in
theorem ggX12_of_X12_in : GoodIn wsX12_of wsX12_in := goodIn_r _ [10] (by decide +kernel) (by decide +kernel)
set_option maxRecDepth 20000 in
theorem gX12_of_X12_in : GoodIn wsX12_of (va_wsS RX12 67 yX12_in wsX12_in) := goodIn_app (goodIn_of _ (by decide +kernel)) ggX12_of_X12_in
set_option maxRecDepth 20000 in
theorem ggX12_of_X12_has : GoodIn wsX12_of wsX12_has := goodIn_r _ [14, 2, 15, 16, 17, 18, 19, 20, 21, 22, 23, 24, 25, 26, 27, 28, 29, 30, 31, 32, 33, 34, 35, 36, 37, 38, 39, 40] (by decide +kernel) (by decide +kernel)
set_option maxRecDepth 20000 in
theorem gX12_of_X12_has : GoodIn wsX12_of (wsV RX12 92 RX12 yX12_has wsX12_has) := goodIn_app (goodIn_of _ (by decide +kernel)) ggX12_of_X12_has
theorem dX12_of_0 : decode cX12_of 0 = .ok (.aload_n 0, 1) := by decide +kernel
theorem dX12_of_1 : decode cX12_of 1 = .ok (.iload_n 1, 1) := by decide +kernel
theorem dX12_of_2 : decode cX12_of 2 = .ok (.invokevirtual 75, 3) := by decide +kernel
theorem dX12_of_5 : decode cX12_of 5 = .ok (.ifCond .eq 15, 3) := by decide +kernel
theorem dX12_of_8 : decode cX12_of 8 = .ok (.iload_n 2, 1) := by decide +kernel
theorem dX12_of_9 : decode cX12_of 9 = .ok (.i2l, 1) := by decide +kernel
theorem dX12_of_10 : decode cX12_of 10 = .ok (.lconst 0, 1) := by decide +kernel
theorem dX12_of_11 : decode cX12_of 11 = .ok (.ldc2_w 79, 3) := by decide +kernel
theorem dX12_of_14 : decode cX12_of 14 = .ok (.invokestatic 67, 3) := by decide +kernel
theorem dX12_of_17 : decode cX12_of 17 = .ok (.ifCond .ne 5, 3) := by decide +kernel
theorem dX12_of_20 : decode cX12_of 20 = .ok (.iconst (-1), 1) := by decide +kernel
theorem dX12_of_21 : decode cX12_of 21 = .ok (.ireturn, 1) := by decide +kernel
theorem dX12_of_22 : decode cX12_of 22 = .ok (.iload_n 2, 1) := by decide +kernel
theorem dX12_of_23 : decode cX12_of 23 = .ok (.ifCond .ne 14, 3) := by decide +kernel
theorem dX12_of_26 : decode cX12_of 26 = .ok (.aload_n 0, 1) := by decide +kernel
theorem dX12_of_27 : decode cX12_of 27 = .ok (.getfield 7, 3) := by decide +kernel
theorem dX12_of_30 : decode cX12_of 30 = .ok (.iconst 5, 1) := by decide +kernel
theorem dX12_of_31 : decode cX12_of 31 = .ok (.iload_n 1, 1) := by decide +kernel
theorem dX12_of_32 : decode cX12_of 32 = .ok (.iadd, 1) := by decide +kernel
theorem dX12_of_33 : decode cX12_of 33 = .ok (.iaload, 1) := by decide +kernel
theorem dX12_of_34 : decode cX12_of 34 = .ok (.goto 28, 3) := by decide +kernel
theorem dX12_of_37 : decode cX12_of 37 = .ok (.iload_n 2, 1) := by decide +kernel
theorem dX12_of_38 : decode cX12_of 38 = .ok (.iconst 1, 1) := by decide +kernel
theorem dX12_of_39 : decode cX12_of 39 = .ok (.if_icmp .ne 15, 3) := by decide +kernel
theorem dX12_of_42 : decode cX12_of 42 = .ok (.aload_n 0, 1) := by decide +kernel
theorem dX12_of_43 : decode cX12_of 43 = .ok (.getfield 7, 3) := by decide +kernel
theorem dX12_of_46 : decode cX12_of 46 = .ok (.bipush 10, 2) := by decide +kernel
theorem dX12_of_48 : decode cX12_of 48 = .ok (.iload_n 1, 1) := by decide +kernel
theorem dX12_of_49 : decode cX12_of 49 = .ok (.iadd, 1) := by decide +kernel
theorem dX12_of_50 : decode cX12_of 50 = .ok (.iaload, 1) := by decide +kernel
theorem dX12_of_51 : decode cX12_of 51 = .ok (.goto 11, 3) := by decide +kernel
theorem dX12_of_54 : decode cX12_of 54 = .ok (.aload_n 0, 1) := by decide +kernel
theorem dX12_of_55 : decode cX12_of 55 = .ok (.iload_n 1, 1) := by decide +kernel
theorem dX12_of_56 : decode cX12_of 56 = .ok (.iload_n 2, 1) := by decide +kernel
theorem dX12_of_57 : decode cX12_of 57 = .ok (.iconst 2, 1) := by decide +kernel
theorem dX12_of_58 : decode cX12_of 58 = .ok (.isub, 1) := by decide +kernel
theorem dX12_of_59 : decode cX12_of 59 = .ok (.invokevirtual 92, 3) := by decide +kernel
theorem dX12_of_62 : decode cX12_of 62 = .ok (.ireturn, 1) := by decide +kernel
set_option maxRecDepth 20000 in
theorem ggX12_tax_X12_in : GoodIn wsX12_tax wsX12_in := goodIn_r _ [5] (by decide +kernel) (by decide +kernel)
set_option maxRecDepth 20000 in
theorem gX12_tax_X12_in : GoodIn wsX12_tax (va_wsS RX12 67 yX12_in wsX12_in) := goodIn_app (goodIn_of _ (by decide +kernel)) ggX12_tax_X12_in
set_option maxRecDepth 20000 in
theorem ggX12_tax_X12_changed : GoodIn wsX12_tax wsX12_changed := goodIn_r _ [9, 10, 11, 12, 13, 14, 15, 16, 17, 18, 19, 20, 21, 22, 23, 24, 25, 26, 27, 28, 29, 30, 31, 32, 33, 34, 35, 36] (by decide +kernel) (by decide +kernel)
set_option maxRecDepth 20000 in
theorem gX12_tax_X12_changed : GoodIn wsX12_tax (wsV RX12 88 RX12 yX12_changed wsX12_changed) := goodIn_app (goodIn_of _ (by decide +kernel)) ggX12_tax_X12_changed
theorem dX12_tax_0 : decode cX12_tax 0 = .ok (.iload_n 1, 1) := by decide +kernel
theorem dX12_tax_1 : decode cX12_tax 1 = .ok (.i2l, 1) := by decide +kernel
theorem dX12_tax_2 : decode cX12_tax 2 = .ok (.lconst 0, 1) := by decide +kernel
theorem dX12_tax_3 : decode cX12_tax 3 = .ok (.ldc2_w 79, 3) := by decide +kernel
theorem dX12_tax_6 : decode cX12_tax 6 = .ok (.invokestatic 67, 3) := by decide +kernel
theorem dX12_tax_9 : decode cX12_tax 9 = .ok (.ifCond .eq 8, 3) := by decide +kernel
theorem dX12_tax_12 : decode cX12_tax 12 = .ok (.bipush 9, 2) := by decide +kernel
theorem dX12_tax_14 : decode cX12_tax 14 = .ok (.goto 23, 3) := by decide +kernel
theorem dX12_tax_17 : decode cX12_tax 17 = .ok (.iload_n 1, 1) := by decide +kernel
theorem dX12_tax_18 : decode cX12_tax 18 = .ok (.iconst 4, 1) := by decide +kernel
theorem dX12_tax_19 : decode cX12_tax 19 = .ok (.if_icmp .ne 8, 3) := by decide +kernel
theorem dX12_tax_22 : decode cX12_tax 22 = .ok (.bipush 99, 2) := by decide +kernel
theorem dX12_tax_24 : decode cX12_tax 24 = .ok (.goto 13, 3) := by decide +kernel
theorem dX12_tax_27 : decode cX12_tax 27 = .ok (.iload_n 1, 1) := by decide +kernel
theorem dX12_tax_28 : decode cX12_tax 28 = .ok (.iconst 5, 1) := by decide +kernel
theorem dX12_tax_29 : decode cX12_tax 29 = .ok (.if_icmp .ne 7, 3) := by decide +kernel
theorem dX12_tax_32 : decode cX12_tax 32 = .ok (.iconst 1, 1) := by decide +kernel
theorem dX12_tax_33 : decode cX12_tax 33 = .ok (.goto 4, 3) := by decide +kernel
theorem dX12_tax_36 : decode cX12_tax 36 = .ok (.iconst (-1), 1) := by decide +kernel
theorem dX12_tax_37 : decode cX12_tax 37 = .ok (.istore_n 3, 1) := by decide +kernel
theorem dX12_tax_38 : decode cX12_tax 38 = .ok (.iload_n 2, 1) := by decide +kernel
theorem dX12_tax_39 : decode cX12_tax 39 = .ok (.i2l, 1) := by decide +kernel
theorem dX12_tax_40 : decode cX12_tax 40 = .ok (.lconst 0, 1) := by decide +kernel
theorem dX12_tax_41 : decode cX12_tax 41 = .ok (.iload_n 3, 1) := by decide +kernel
theorem dX12_tax_42 : decode cX12_tax 42 = .ok (.i2l, 1) := by decide +kernel
theorem dX12_tax_43 : decode cX12_tax 43 = .ok (.invokestatic 67, 3) := by decide +kernel
theorem dX12_tax_46 : decode cX12_tax 46 = .ok (.ifCond .ne 5, 3) := by decide +kernel
theorem dX12_tax_49 : decode cX12_tax 49 = .ok (.iconst (-1), 1) := by decide +kernel
theorem dX12_tax_50 : decode cX12_tax 50 = .ok (.ireturn, 1) := by decide +kernel
theorem dX12_tax_51 : decode cX12_tax 51 = .ok (.aload_n 0, 1) := by decide +kernel
theorem dX12_tax_52 : decode cX12_tax 52 = .ok (.iload_n 1, 1) := by decide +kernel
theorem dX12_tax_53 : decode cX12_tax 53 = .ok (.iconst 4, 1) := by decide +kernel
theorem dX12_tax_54 : decode cX12_tax 54 = .ok (.if_icmp .ne 7, 3) := by decide +kernel
theorem dX12_tax_57 : decode cX12_tax 57 = .ok (.iconst 2, 1) := by decide +kernel
theorem dX12_tax_58 : decode cX12_tax 58 = .ok (.goto 16, 3) := by decide +kernel
theorem dX12_tax_61 : decode cX12_tax 61 = .ok (.iload_n 1, 1) := by decide +kernel
theorem dX12_tax_62 : decode cX12_tax 62 = .ok (.iconst 5, 1) := by decide +kernel
theorem dX12_tax_63 : decode cX12_tax 63 = .ok (.if_icmp .ne 7, 3) := by decide +kernel
theorem dX12_tax_66 : decode cX12_tax 66 = .ok (.iconst 3, 1) := by decide +kernel
theorem dX12_tax_67 : decode cX12_tax 67 = .ok (.goto 7, 3) := by decide +kernel
theorem dX12_tax_70 : decode cX12_tax 70 = .ok (.bipush 95, 2) := by decide +kernel
theorem dX12_tax_72 : decode cX12_tax 72 = .ok (.iload_n 1, 1) := by decide +kernel
theorem dX12_tax_73 : decode cX12_tax 73 = .ok (.iadd, 1) := by decide +kernel
theorem dX12_tax_74 : decode cX12_tax 74 = .ok (.iload_n 2, 1) := by decide +kernel
theorem dX12_tax_75 : decode cX12_tax 75 = .ok (.invokevirtual 88, 3) := by decide +kernel
theorem dX12_tax_78 : decode cX12_tax 78 = .ok (.ireturn, 1) := by decide +kernel
set_option maxRecDepth 20000 in
theorem ggX12_road_X12_in : GoodIn wsX12_road wsX12_in := goodIn_r _ [5] (by decide +kernel) (by decide +kernel)
set_option maxRecDepth 20000 in
theorem gX12_road_X12_in : GoodIn wsX12_road (va_wsS RX12 67 yX12_in wsX12_in) := goodIn_app (goodIn_of _ (by decide +kernel)) ggX12_road_X12_in
set_option maxRecDepth 20000 in
theorem ggX12_road_X12_changed : GoodIn wsX12_road wsX12_changed := goodIn_r _ [9, 10, 11, 12, 13, 14, 15, 16, 17, 18, 19, 20, 21, 22, 23, 24, 25, 26, 27, 28, 29, 30, 31, 32, 33, 34, 35, 36] (by decide +kernel) (by decide +kernel)
set_option maxRecDepth 20000 in
theorem gX12_road_X12_changed : GoodIn wsX12_road (wsV RX12 88 RX12 yX12_changed wsX12_changed) := goodIn_app (goodIn_of _ (by decide +kernel)) ggX12_road_X12_changed
theorem dX12_road_0 : decode cX12_road 0 = .ok (.iload_n 2, 1) := by decide +kernel
theorem dX12_road_1 : decode cX12_road 1 = .ok (.ifCond .ne 8, 3) := by decide +kernel
theorem dX12_road_4 : decode cX12_road 4 = .ok (.bipush 9, 2) := by decide +kernel
theorem dX12_road_6 : decode cX12_road 6 = .ok (.goto 14, 3) := by decide +kernel
theorem dX12_road_9 : decode cX12_road 9 = .ok (.iload_n 2, 1) := by decide +kernel
theorem dX12_road_10 : decode cX12_road 10 = .ok (.iconst 1, 1) := by decide +kernel
theorem dX12_road_11 : decode cX12_road 11 = .ok (.if_icmp .ne 8, 3) := by decide +kernel
theorem dX12_road_14 : decode cX12_road 14 = .ok (.bipush 16, 2) := by decide +kernel
theorem dX12_road_16 : decode cX12_road 16 = .ok (.goto 4, 3) := by decide +kernel
theorem dX12_road_19 : decode cX12_road 19 = .ok (.iconst (-1), 1) := by decide +kernel
theorem dX12_road_20 : decode cX12_road 20 = .ok (.istore 4, 2) := by decide +kernel
theorem dX12_road_22 : decode cX12_road 22 = .ok (.iload_n 1, 1) := by decide +kernel
theorem dX12_road_23 : decode cX12_road 23 = .ok (.i2l, 1) := by decide +kernel
theorem dX12_road_24 : decode cX12_road 24 = .ok (.lconst 0, 1) := by decide +kernel
theorem dX12_road_25 : decode cX12_road 25 = .ok (.ldc2_w 95, 3) := by decide +kernel
theorem dX12_road_28 : decode cX12_road 28 = .ok (.invokestatic 67, 3) := by decide +kernel
theorem dX12_road_31 : decode cX12_road 31 = .ok (.ifCond .eq 15, 3) := by decide +kernel
theorem dX12_road_34 : decode cX12_road 34 = .ok (.iload_n 3, 1) := by decide +kernel
theorem dX12_road_35 : decode cX12_road 35 = .ok (.i2l, 1) := by decide +kernel
theorem dX12_road_36 : decode cX12_road 36 = .ok (.lconst 0, 1) := by decide +kernel
theorem dX12_road_37 : decode cX12_road 37 = .ok (.iload 4, 2) := by decide +kernel
theorem dX12_road_39 : decode cX12_road 39 = .ok (.i2l, 1) := by decide +kernel
theorem dX12_road_40 : decode cX12_road 40 = .ok (.invokestatic 67, 3) := by decide +kernel
theorem dX12_road_43 : decode cX12_road 43 = .ok (.ifCond .ne 5, 3) := by decide +kernel
theorem dX12_road_46 : decode cX12_road 46 = .ok (.iconst (-1), 1) := by decide +kernel
theorem dX12_road_47 : decode cX12_road 47 = .ok (.ireturn, 1) := by decide +kernel
theorem dX12_road_48 : decode cX12_road 48 = .ok (.aload_n 0, 1) := by decide +kernel
theorem dX12_road_49 : decode cX12_road 49 = .ok (.iload_n 2, 1) := by decide +kernel
theorem dX12_road_50 : decode cX12_road 50 = .ok (.ifCond .ne 8, 3) := by decide +kernel
theorem dX12_road_53 : decode cX12_road 53 = .ok (.bipush 99, 2) := by decide +kernel
theorem dX12_road_55 : decode cX12_road 55 = .ok (.goto 5, 3) := by decide +kernel
theorem dX12_road_58 : decode cX12_road 58 = .ok (.bipush 108, 2) := by decide +kernel
theorem dX12_road_60 : decode cX12_road 60 = .ok (.iload_n 1, 1) := by decide +kernel
theorem dX12_road_61 : decode cX12_road 61 = .ok (.iadd, 1) := by decide +kernel
theorem dX12_road_62 : decode cX12_road 62 = .ok (.iload_n 3, 1) := by decide +kernel
theorem dX12_road_63 : decode cX12_road 63 = .ok (.invokevirtual 88, 3) := by decide +kernel
theorem dX12_road_66 : decode cX12_road 66 = .ok (.ireturn, 1) := by decide +kernel
set_option maxRecDepth 20000 in
theorem ggX12_type_X12_in : GoodIn wsX12_type wsX12_in := goodIn_r _ [10] (by decide +kernel) (by decide +kernel)
set_option maxRecDepth 20000 in
theorem gX12_type_X12_in : GoodIn wsX12_type (va_wsS RX12 67 yX12_in wsX12_in) := goodIn_app (goodIn_of _ (by decide +kernel)) ggX12_type_X12_in
theorem dX12_type_0 : decode cX12_type 0 = .ok (.iload_n 3, 1) := by decide +kernel
theorem dX12_type_1 : decode cX12_type 1 = .ok (.i2l, 1) := by decide +kernel
theorem dX12_type_2 : decode cX12_type 2 = .ok (.lconst 1, 1) := by decide +kernel
theorem dX12_type_3 : decode cX12_type 3 = .ok (.ldc2_w 95, 3) := by decide +kernel
theorem dX12_type_6 : decode cX12_type 6 = .ok (.invokestatic 67, 3) := by decide +kernel
theorem dX12_type_9 : decode cX12_type 9 = .ok (.ifCond .ne 5, 3) := by decide +kernel
theorem dX12_type_12 : decode cX12_type 12 = .ok (.iconst (-1), 1) := by decide +kernel
theorem dX12_type_13 : decode cX12_type 13 = .ok (.ireturn, 1) := by decide +kernel
theorem dX12_type_14 : decode cX12_type 14 = .ok (.iconst 1, 1) := by decide +kernel
theorem dX12_type_15 : decode cX12_type 15 = .ok (.istore 4, 2) := by decide +kernel
theorem dX12_type_17 : decode cX12_type 17 = .ok (.iconst 0, 1) := by decide +kernel
theorem dX12_type_18 : decode cX12_type 18 = .ok (.istore 5, 2) := by decide +kernel
theorem dX12_type_20 : decode cX12_type 20 = .ok (.iload 5, 2) := by decide +kernel
theorem dX12_type_22 : decode cX12_type 22 = .ok (.iload_n 3, 1) := by decide +kernel
theorem dX12_type_23 : decode cX12_type 23 = .ok (.if_icmp .ge 44, 3) := by decide +kernel
theorem dX12_type_26 : decode cX12_type 26 = .ok (.iload 4, 2) := by decide +kernel
theorem dX12_type_28 : decode cX12_type 28 = .ok (.ifCond .eq 30, 3) := by decide +kernel
theorem dX12_type_31 : decode cX12_type 31 = .ok (.lload_n 1, 1) := by decide +kernel
theorem dX12_type_32 : decode cX12_type 32 = .ok (.bipush 8, 2) := by decide +kernel
theorem dX12_type_34 : decode cX12_type 34 = .ok (.iload 5, 2) := by decide +kernel
theorem dX12_type_36 : decode cX12_type 36 = .ok (.imul, 1) := by decide +kernel
theorem dX12_type_37 : decode cX12_type 37 = .ok (.lshr, 1) := by decide +kernel
theorem dX12_type_38 : decode cX12_type 38 = .ok (.ldc2_w 97, 3) := by decide +kernel
theorem dX12_type_41 : decode cX12_type 41 = .ok (.land, 1) := by decide +kernel
theorem dX12_type_42 : decode cX12_type 42 = .ok (.ldc2_w 99, 3) := by decide +kernel
theorem dX12_type_45 : decode cX12_type 45 = .ok (.ldc2_w 101, 3) := by decide +kernel
theorem dX12_type_48 : decode cX12_type 48 = .ok (.invokestatic 67, 3) := by decide +kernel
theorem dX12_type_51 : decode cX12_type 51 = .ok (.ifCond .eq 7, 3) := by decide +kernel
theorem dX12_type_54 : decode cX12_type 54 = .ok (.iconst 1, 1) := by decide +kernel
theorem dX12_type_55 : decode cX12_type 55 = .ok (.goto 4, 3) := by decide +kernel
theorem dX12_type_58 : decode cX12_type 58 = .ok (.iconst 0, 1) := by decide +kernel
theorem dX12_type_59 : decode cX12_type 59 = .ok (.istore 4, 2) := by decide +kernel
theorem dX12_type_61 : decode cX12_type 61 = .ok (.iinc 5 1, 3) := by decide +kernel
theorem dX12_type_64 : decode cX12_type 64 = .ok (.goto (-44), 3) := by decide +kernel
theorem dX12_type_67 : decode cX12_type 67 = .ok (.iload 4, 2) := by decide +kernel
theorem dX12_type_69 : decode cX12_type 69 = .ok (.ifCond .ne 5, 3) := by decide +kernel
theorem dX12_type_72 : decode cX12_type 72 = .ok (.iconst (-1), 1) := by decide +kernel
theorem dX12_type_73 : decode cX12_type 73 = .ok (.ireturn, 1) := by decide +kernel
theorem dX12_type_74 : decode cX12_type 74 = .ok (.aload_n 0, 1) := by decide +kernel
theorem dX12_type_75 : decode cX12_type 75 = .ok (.getfield 103, 3) := by decide +kernel
theorem dX12_type_78 : decode cX12_type 78 = .ok (.iload_n 3, 1) := by decide +kernel
theorem dX12_type_79 : decode cX12_type 79 = .ok (.iadd, 1) := by decide +kernel
theorem dX12_type_80 : decode cX12_type 80 = .ok (.bipush 60, 2) := by decide +kernel
theorem dX12_type_82 : decode cX12_type 82 = .ok (.if_icmp .le 6, 3) := by decide +kernel
theorem dX12_type_85 : decode cX12_type 85 = .ok (.bipush (-3), 2) := by decide +kernel
theorem dX12_type_87 : decode cX12_type 87 = .ok (.ireturn, 1) := by decide +kernel
theorem dX12_type_88 : decode cX12_type 88 = .ok (.iload_n 3, 1) := by decide +kernel
theorem dX12_type_89 : decode cX12_type 89 = .ok (.iconst 1, 1) := by decide +kernel
theorem dX12_type_90 : decode cX12_type 90 = .ok (.isub, 1) := by decide +kernel
theorem dX12_type_91 : decode cX12_type 91 = .ok (.istore 5, 2) := by decide +kernel
theorem dX12_type_93 : decode cX12_type 93 = .ok (.iload 5, 2) := by decide +kernel
theorem dX12_type_95 : decode cX12_type 95 = .ok (.ifCond .lt 40, 3) := by decide +kernel
theorem dX12_type_98 : decode cX12_type 98 = .ok (.aload_n 0, 1) := by decide +kernel
theorem dX12_type_99 : decode cX12_type 99 = .ok (.getfield 16, 3) := by decide +kernel
theorem dX12_type_102 : decode cX12_type 102 = .ok (.aload_n 0, 1) := by decide +kernel
theorem dX12_type_103 : decode cX12_type 103 = .ok (.getfield 103, 3) := by decide +kernel
theorem dX12_type_106 : decode cX12_type 106 = .ok (.lload_n 1, 1) := by decide +kernel
theorem dX12_type_107 : decode cX12_type 107 = .ok (.bipush 8, 2) := by decide +kernel
theorem dX12_type_109 : decode cX12_type 109 = .ok (.iload 5, 2) := by decide +kernel
theorem dX12_type_111 : decode cX12_type 111 = .ok (.imul, 1) := by decide +kernel
theorem dX12_type_112 : decode cX12_type 112 = .ok (.lshr, 1) := by decide +kernel
theorem dX12_type_113 : decode cX12_type 113 = .ok (.ldc2_w 97, 3) := by decide +kernel
theorem dX12_type_116 : decode cX12_type 116 = .ok (.land, 1) := by decide +kernel
theorem dX12_type_117 : decode cX12_type 117 = .ok (.l2i, 1) := by decide +kernel
theorem dX12_type_118 : decode cX12_type 118 = .ok (.iastore, 1) := by decide +kernel
theorem dX12_type_119 : decode cX12_type 119 = .ok (.aload_n 0, 1) := by decide +kernel
theorem dX12_type_120 : decode cX12_type 120 = .ok (.dup, 1) := by decide +kernel
theorem dX12_type_121 : decode cX12_type 121 = .ok (.getfield 103, 3) := by decide +kernel
theorem dX12_type_124 : decode cX12_type 124 = .ok (.iconst 1, 1) := by decide +kernel
theorem dX12_type_125 : decode cX12_type 125 = .ok (.iadd, 1) := by decide +kernel
theorem dX12_type_126 : decode cX12_type 126 = .ok (.putfield 103, 3) := by decide +kernel
theorem dX12_type_129 : decode cX12_type 129 = .ok (.iinc 5 (-1), 3) := by decide +kernel
theorem dX12_type_132 : decode cX12_type 132 = .ok (.goto (-39), 3) := by decide +kernel
theorem dX12_type_135 : decode cX12_type 135 = .ok (.aload_n 0, 1) := by decide +kernel
theorem dX12_type_136 : decode cX12_type 136 = .ok (.getfield 103, 3) := by decide +kernel
theorem dX12_type_139 : decode cX12_type 139 = .ok (.ireturn, 1) := by decide +kernel
theorem dX12_next_0 : decode cX12_next 0 = .ok (.aload_n 0, 1) := by decide +kernel
theorem dX12_next_1 : decode cX12_next 1 = .ok (.getfield 107, 3) := by decide +kernel
theorem dX12_next_4 : decode cX12_next 4 = .ok (.aload_n 0, 1) := by decide +kernel
theorem dX12_next_5 : decode cX12_next 5 = .ok (.getfield 103, 3) := by decide +kernel
theorem dX12_next_8 : decode cX12_next 8 = .ok (.if_icmp .ge 30, 3) := by decide +kernel
theorem dX12_next_11 : decode cX12_next 11 = .ok (.aload_n 0, 1) := by decide +kernel
theorem dX12_next_12 : decode cX12_next 12 = .ok (.getfield 16, 3) := by decide +kernel
theorem dX12_next_15 : decode cX12_next 15 = .ok (.aload_n 0, 1) := by decide +kernel
theorem dX12_next_16 : decode cX12_next 16 = .ok (.getfield 107, 3) := by decide +kernel
theorem dX12_next_19 : decode cX12_next 19 = .ok (.iaload, 1) := by decide +kernel
theorem dX12_next_20 : decode cX12_next 20 = .ok (.bipush 32, 2) := by decide +kernel
theorem dX12_next_22 : decode cX12_next 22 = .ok (.if_icmp .ne 16, 3) := by decide +kernel
theorem dX12_next_25 : decode cX12_next 25 = .ok (.aload_n 0, 1) := by decide +kernel
theorem dX12_next_26 : decode cX12_next 26 = .ok (.dup, 1) := by decide +kernel
theorem dX12_next_27 : decode cX12_next 27 = .ok (.getfield 107, 3) := by decide +kernel
theorem dX12_next_30 : decode cX12_next 30 = .ok (.iconst 1, 1) := by decide +kernel
theorem dX12_next_31 : decode cX12_next 31 = .ok (.iadd, 1) := by decide +kernel
theorem dX12_next_32 : decode cX12_next 32 = .ok (.putfield 107, 3) := by decide +kernel
theorem dX12_next_35 : decode cX12_next 35 = .ok (.goto (-35), 3) := by decide +kernel
theorem dX12_next_38 : decode cX12_next 38 = .ok (.aload_n 0, 1) := by decide +kernel
theorem dX12_next_39 : decode cX12_next 39 = .ok (.getfield 107, 3) := by decide +kernel
theorem dX12_next_42 : decode cX12_next 42 = .ok (.aload_n 0, 1) := by decide +kernel
theorem dX12_next_43 : decode cX12_next 43 = .ok (.getfield 103, 3) := by decide +kernel
theorem dX12_next_46 : decode cX12_next 46 = .ok (.if_icmp .ge 15, 3) := by decide +kernel
theorem dX12_next_49 : decode cX12_next 49 = .ok (.aload_n 0, 1) := by decide +kernel
theorem dX12_next_50 : decode cX12_next 50 = .ok (.getfield 16, 3) := by decide +kernel
theorem dX12_next_53 : decode cX12_next 53 = .ok (.aload_n 0, 1) := by decide +kernel
theorem dX12_next_54 : decode cX12_next 54 = .ok (.getfield 107, 3) := by decide +kernel
theorem dX12_next_57 : decode cX12_next 57 = .ok (.iaload, 1) := by decide +kernel
theorem dX12_next_58 : decode cX12_next 58 = .ok (.goto 4, 3) := by decide +kernel
theorem dX12_next_61 : decode cX12_next 61 = .ok (.iconst (-1), 1) := by decide +kernel
theorem dX12_next_62 : decode cX12_next 62 = .ok (.ireturn, 1) := by decide +kernel
set_option maxRecDepth 20000 in
theorem ggX12_isFigure_X12_in : GoodIn wsX12_isFigure wsX12_in := goodIn_r _ [6] (by decide +kernel) (by decide +kernel)
set_option maxRecDepth 20000 in
theorem gX12_isFigure_X12_in : GoodIn wsX12_isFigure (va_wsS RX12 67 yX12_in wsX12_in) := goodIn_app (goodIn_of _ (by decide +kernel)) ggX12_isFigure_X12_in
theorem dX12_isFigure_0 : decode cX12_isFigure 0 = .ok (.iload_n 0, 1) := by decide +kernel
theorem dX12_isFigure_1 : decode cX12_isFigure 1 = .ok (.i2l, 1) := by decide +kernel
theorem dX12_isFigure_2 : decode cX12_isFigure 2 = .ok (.ldc2_w 110, 3) := by decide +kernel
theorem dX12_isFigure_5 : decode cX12_isFigure 5 = .ok (.ldc2_w 112, 3) := by decide +kernel
theorem dX12_isFigure_8 : decode cX12_isFigure 8 = .ok (.invokestatic 67, 3) := by decide +kernel
theorem dX12_isFigure_11 : decode cX12_isFigure 11 = .ok (.ireturn, 1) := by decide +kernel
set_option maxRecDepth 20000 in
theorem ggX12_takesFigure_X12_next : GoodIn wsX12_takesFigure wsX12_next := goodIn_r _ [7, 2, 8, 9, 18, 19, 20, 21, 22, 23, 24, 25, 26, 27, 28, 29, 30, 31, 32, 33, 34, 35, 36, 37, 38, 39, 40, 41, 42, 43] (by decide +kernel) (by decide +kernel)
set_option maxRecDepth 20000 in
theorem gX12_takesFigure_X12_next : GoodIn wsX12_takesFigure (wsV RX12 114 RX12 yX12_next wsX12_next) := goodIn_app (goodIn_of _ (by decide +kernel)) ggX12_takesFigure_X12_next
set_option maxRecDepth 20000 in
theorem ggX12_takesFigure_X12_isFigure : GoodIn wsX12_takesFigure wsX12_isFigure := goodIn_r _ [12, 13, 14, 15, 16, 6, 17] (by decide +kernel) (by decide +kernel)
set_option maxRecDepth 20000 in
theorem gX12_takesFigure_X12_isFigure : GoodIn wsX12_takesFigure (va_wsS RX12 118 yX12_isFigure wsX12_isFigure) := goodIn_app (goodIn_of _ (by decide +kernel)) ggX12_takesFigure_X12_isFigure
theorem dX12_takesFigure_0 : decode cX12_takesFigure 0 = .ok (.aload_n 0, 1) := by decide +kernel
theorem dX12_takesFigure_1 : decode cX12_takesFigure 1 = .ok (.invokevirtual 114, 3) := by decide +kernel
theorem dX12_takesFigure_4 : decode cX12_takesFigure 4 = .ok (.istore_n 2, 1) := by decide +kernel
theorem dX12_takesFigure_5 : decode cX12_takesFigure 5 = .ok (.iload_n 2, 1) := by decide +kernel
theorem dX12_takesFigure_6 : decode cX12_takesFigure 6 = .ok (.invokestatic 118, 3) := by decide +kernel
theorem dX12_takesFigure_9 : decode cX12_takesFigure 9 = .ok (.ifCond .ne 5, 3) := by decide +kernel
theorem dX12_takesFigure_12 : decode cX12_takesFigure 12 = .ok (.iconst 0, 1) := by decide +kernel
theorem dX12_takesFigure_13 : decode cX12_takesFigure 13 = .ok (.ireturn, 1) := by decide +kernel
theorem dX12_takesFigure_14 : decode cX12_takesFigure 14 = .ok (.aload_n 0, 1) := by decide +kernel
theorem dX12_takesFigure_15 : decode cX12_takesFigure 15 = .ok (.getfield 28, 3) := by decide +kernel
theorem dX12_takesFigure_18 : decode cX12_takesFigure 18 = .ok (.iload_n 1, 1) := by decide +kernel
theorem dX12_takesFigure_19 : decode cX12_takesFigure 19 = .ok (.iload_n 2, 1) := by decide +kernel
theorem dX12_takesFigure_20 : decode cX12_takesFigure 20 = .ok (.bipush 48, 2) := by decide +kernel
theorem dX12_takesFigure_22 : decode cX12_takesFigure 22 = .ok (.isub, 1) := by decide +kernel
theorem dX12_takesFigure_23 : decode cX12_takesFigure 23 = .ok (.iastore, 1) := by decide +kernel
theorem dX12_takesFigure_24 : decode cX12_takesFigure 24 = .ok (.aload_n 0, 1) := by decide +kernel
theorem dX12_takesFigure_25 : decode cX12_takesFigure 25 = .ok (.dup, 1) := by decide +kernel
theorem dX12_takesFigure_26 : decode cX12_takesFigure 26 = .ok (.getfield 107, 3) := by decide +kernel
theorem dX12_takesFigure_29 : decode cX12_takesFigure 29 = .ok (.iconst 1, 1) := by decide +kernel
theorem dX12_takesFigure_30 : decode cX12_takesFigure 30 = .ok (.iadd, 1) := by decide +kernel
theorem dX12_takesFigure_31 : decode cX12_takesFigure 31 = .ok (.putfield 107, 3) := by decide +kernel
theorem dX12_takesFigure_34 : decode cX12_takesFigure 34 = .ok (.iconst 1, 1) := by decide +kernel
theorem dX12_takesFigure_35 : decode cX12_takesFigure 35 = .ok (.ireturn, 1) := by decide +kernel
set_option maxRecDepth 20000 in
theorem ggX12_takesNumber_X12_next : GoodIn wsX12_takesNumber wsX12_next := goodIn_r _ [9, 1, 2, 3, 18, 19, 20, 21, 22, 23, 24, 25, 26, 27, 28, 29, 30, 31, 32, 33, 34, 35, 36, 37, 38, 39, 40, 41, 42, 43] (by decide +kernel) (by decide +kernel)
set_option maxRecDepth 20000 in
theorem gX12_takesNumber_X12_next : GoodIn wsX12_takesNumber (wsV RX12 114 RX12 yX12_next wsX12_next) := goodIn_app (goodIn_of _ (by decide +kernel)) ggX12_takesNumber_X12_next
set_option maxRecDepth 20000 in
theorem ggX12_takesNumber_X12_isFigure : GoodIn wsX12_takesNumber wsX12_isFigure := goodIn_r _ [12, 13, 14, 15, 16, 8, 17] (by decide +kernel) (by decide +kernel)
set_option maxRecDepth 20000 in
theorem gX12_takesNumber_X12_isFigure : GoodIn wsX12_takesNumber (va_wsS RX12 118 yX12_isFigure wsX12_isFigure) := goodIn_app (goodIn_of _ (by decide +kernel)) ggX12_takesNumber_X12_isFigure
theorem dX12_takesNumber_0 : decode cX12_takesNumber 0 = .ok (.aload_n 0, 1) := by decide +kernel
theorem dX12_takesNumber_1 : decode cX12_takesNumber 1 = .ok (.invokevirtual 114, 3) := by decide +kernel
theorem dX12_takesNumber_4 : decode cX12_takesNumber 4 = .ok (.invokestatic 118, 3) := by decide +kernel
theorem dX12_takesNumber_7 : decode cX12_takesNumber 7 = .ok (.ifCond .ne 5, 3) := by decide +kernel
theorem dX12_takesNumber_10 : decode cX12_takesNumber 10 = .ok (.iconst 0, 1) := by decide +kernel
theorem dX12_takesNumber_11 : decode cX12_takesNumber 11 = .ok (.ireturn, 1) := by decide +kernel
theorem dX12_takesNumber_12 : decode cX12_takesNumber 12 = .ok (.aload_n 0, 1) := by decide +kernel
theorem dX12_takesNumber_13 : decode cX12_takesNumber 13 = .ok (.getfield 107, 3) := by decide +kernel
theorem dX12_takesNumber_16 : decode cX12_takesNumber 16 = .ok (.istore_n 3, 1) := by decide +kernel
theorem dX12_takesNumber_17 : decode cX12_takesNumber 17 = .ok (.iconst 0, 1) := by decide +kernel
theorem dX12_takesNumber_18 : decode cX12_takesNumber 18 = .ok (.istore 4, 2) := by decide +kernel
theorem dX12_takesNumber_20 : decode cX12_takesNumber 20 = .ok (.aload_n 0, 1) := by decide +kernel
theorem dX12_takesNumber_21 : decode cX12_takesNumber 21 = .ok (.getfield 107, 3) := by decide +kernel
theorem dX12_takesNumber_24 : decode cX12_takesNumber 24 = .ok (.aload_n 0, 1) := by decide +kernel
theorem dX12_takesNumber_25 : decode cX12_takesNumber 25 = .ok (.getfield 103, 3) := by decide +kernel
theorem dX12_takesNumber_28 : decode cX12_takesNumber 28 = .ok (.if_icmp .ge 62, 3) := by decide +kernel
theorem dX12_takesNumber_31 : decode cX12_takesNumber 31 = .ok (.aload_n 0, 1) := by decide +kernel
theorem dX12_takesNumber_32 : decode cX12_takesNumber 32 = .ok (.getfield 16, 3) := by decide +kernel
theorem dX12_takesNumber_35 : decode cX12_takesNumber 35 = .ok (.aload_n 0, 1) := by decide +kernel
theorem dX12_takesNumber_36 : decode cX12_takesNumber 36 = .ok (.getfield 107, 3) := by decide +kernel
theorem dX12_takesNumber_39 : decode cX12_takesNumber 39 = .ok (.iaload, 1) := by decide +kernel
theorem dX12_takesNumber_40 : decode cX12_takesNumber 40 = .ok (.invokestatic 118, 3) := by decide +kernel
theorem dX12_takesNumber_43 : decode cX12_takesNumber 43 = .ok (.ifCond .eq 47, 3) := by decide +kernel
theorem dX12_takesNumber_46 : decode cX12_takesNumber 46 = .ok (.iload 4, 2) := by decide +kernel
theorem dX12_takesNumber_48 : decode cX12_takesNumber 48 = .ok (.iload_n 2, 1) := by decide +kernel
theorem dX12_takesNumber_49 : decode cX12_takesNumber 49 = .ok (.if_icmp .le 8, 3) := by decide +kernel
theorem dX12_takesNumber_52 : decode cX12_takesNumber 52 = .ok (.iload 4, 2) := by decide +kernel
theorem dX12_takesNumber_54 : decode cX12_takesNumber 54 = .ok (.goto 21, 3) := by decide +kernel
theorem dX12_takesNumber_57 : decode cX12_takesNumber 57 = .ok (.bipush 10, 2) := by decide +kernel
theorem dX12_takesNumber_59 : decode cX12_takesNumber 59 = .ok (.iload 4, 2) := by decide +kernel
theorem dX12_takesNumber_61 : decode cX12_takesNumber 61 = .ok (.imul, 1) := by decide +kernel
theorem dX12_takesNumber_62 : decode cX12_takesNumber 62 = .ok (.aload_n 0, 1) := by decide +kernel
theorem dX12_takesNumber_63 : decode cX12_takesNumber 63 = .ok (.getfield 16, 3) := by decide +kernel
theorem dX12_takesNumber_66 : decode cX12_takesNumber 66 = .ok (.aload_n 0, 1) := by decide +kernel
theorem dX12_takesNumber_67 : decode cX12_takesNumber 67 = .ok (.getfield 107, 3) := by decide +kernel
theorem dX12_takesNumber_70 : decode cX12_takesNumber 70 = .ok (.iaload, 1) := by decide +kernel
theorem dX12_takesNumber_71 : decode cX12_takesNumber 71 = .ok (.iadd, 1) := by decide +kernel
theorem dX12_takesNumber_72 : decode cX12_takesNumber 72 = .ok (.bipush 48, 2) := by decide +kernel
theorem dX12_takesNumber_74 : decode cX12_takesNumber 74 = .ok (.isub, 1) := by decide +kernel
theorem dX12_takesNumber_75 : decode cX12_takesNumber 75 = .ok (.istore 4, 2) := by decide +kernel
theorem dX12_takesNumber_77 : decode cX12_takesNumber 77 = .ok (.aload_n 0, 1) := by decide +kernel
theorem dX12_takesNumber_78 : decode cX12_takesNumber 78 = .ok (.dup, 1) := by decide +kernel
theorem dX12_takesNumber_79 : decode cX12_takesNumber 79 = .ok (.getfield 107, 3) := by decide +kernel
theorem dX12_takesNumber_82 : decode cX12_takesNumber 82 = .ok (.iconst 1, 1) := by decide +kernel
theorem dX12_takesNumber_83 : decode cX12_takesNumber 83 = .ok (.iadd, 1) := by decide +kernel
theorem dX12_takesNumber_84 : decode cX12_takesNumber 84 = .ok (.putfield 107, 3) := by decide +kernel
theorem dX12_takesNumber_87 : decode cX12_takesNumber 87 = .ok (.goto (-67), 3) := by decide +kernel
theorem dX12_takesNumber_90 : decode cX12_takesNumber 90 = .ok (.iload 4, 2) := by decide +kernel
theorem dX12_takesNumber_92 : decode cX12_takesNumber 92 = .ok (.iload_n 2, 1) := by decide +kernel
theorem dX12_takesNumber_93 : decode cX12_takesNumber 93 = .ok (.if_icmp .le 10, 3) := by decide +kernel
theorem dX12_takesNumber_96 : decode cX12_takesNumber 96 = .ok (.aload_n 0, 1) := by decide +kernel
theorem dX12_takesNumber_97 : decode cX12_takesNumber 97 = .ok (.iload_n 3, 1) := by decide +kernel
theorem dX12_takesNumber_98 : decode cX12_takesNumber 98 = .ok (.putfield 107, 3) := by decide +kernel
theorem dX12_takesNumber_101 : decode cX12_takesNumber 101 = .ok (.iconst 0, 1) := by decide +kernel
theorem dX12_takesNumber_102 : decode cX12_takesNumber 102 = .ok (.ireturn, 1) := by decide +kernel
theorem dX12_takesNumber_103 : decode cX12_takesNumber 103 = .ok (.aload_n 0, 1) := by decide +kernel
theorem dX12_takesNumber_104 : decode cX12_takesNumber 104 = .ok (.getfield 28, 3) := by decide +kernel
theorem dX12_takesNumber_107 : decode cX12_takesNumber 107 = .ok (.iload_n 1, 1) := by decide +kernel
theorem dX12_takesNumber_108 : decode cX12_takesNumber 108 = .ok (.iload 4, 2) := by decide +kernel
theorem dX12_takesNumber_110 : decode cX12_takesNumber 110 = .ok (.iastore, 1) := by decide +kernel
theorem dX12_takesNumber_111 : decode cX12_takesNumber 111 = .ok (.iconst 1, 1) := by decide +kernel
theorem dX12_takesNumber_112 : decode cX12_takesNumber 112 = .ok (.ireturn, 1) := by decide +kernel
theorem dX12_sortOf_0 : decode cX12_sortOf 0 = .ok (.iload_n 0, 1) := by decide +kernel
theorem dX12_sortOf_1 : decode cX12_sortOf 1 = .ok (.bipush 112, 2) := by decide +kernel
theorem dX12_sortOf_3 : decode cX12_sortOf 3 = .ok (.if_icmp .ne 7, 3) := by decide +kernel
theorem dX12_sortOf_6 : decode cX12_sortOf 6 = .ok (.iconst 0, 1) := by decide +kernel
theorem dX12_sortOf_7 : decode cX12_sortOf 7 = .ok (.goto 34, 3) := by decide +kernel
theorem dX12_sortOf_10 : decode cX12_sortOf 10 = .ok (.iload_n 0, 1) := by decide +kernel
theorem dX12_sortOf_11 : decode cX12_sortOf 11 = .ok (.bipush 115, 2) := by decide +kernel
theorem dX12_sortOf_13 : decode cX12_sortOf 13 = .ok (.if_icmp .ne 7, 3) := by decide +kernel
theorem dX12_sortOf_16 : decode cX12_sortOf 16 = .ok (.iconst 1, 1) := by decide +kernel
theorem dX12_sortOf_17 : decode cX12_sortOf 17 = .ok (.goto 24, 3) := by decide +kernel
theorem dX12_sortOf_20 : decode cX12_sortOf 20 = .ok (.iload_n 0, 1) := by decide +kernel
theorem dX12_sortOf_21 : decode cX12_sortOf 21 = .ok (.bipush 99, 2) := by decide +kernel
theorem dX12_sortOf_23 : decode cX12_sortOf 23 = .ok (.if_icmp .ne 7, 3) := by decide +kernel
theorem dX12_sortOf_26 : decode cX12_sortOf 26 = .ok (.iconst 2, 1) := by decide +kernel
theorem dX12_sortOf_27 : decode cX12_sortOf 27 = .ok (.goto 14, 3) := by decide +kernel
theorem dX12_sortOf_30 : decode cX12_sortOf 30 = .ok (.iload_n 0, 1) := by decide +kernel
theorem dX12_sortOf_31 : decode cX12_sortOf 31 = .ok (.bipush 107, 2) := by decide +kernel
theorem dX12_sortOf_33 : decode cX12_sortOf 33 = .ok (.if_icmp .ne 7, 3) := by decide +kernel
theorem dX12_sortOf_36 : decode cX12_sortOf 36 = .ok (.iconst 3, 1) := by decide +kernel
theorem dX12_sortOf_37 : decode cX12_sortOf 37 = .ok (.goto 4, 3) := by decide +kernel
theorem dX12_sortOf_40 : decode cX12_sortOf 40 = .ok (.iconst (-1), 1) := by decide +kernel
theorem dX12_sortOf_41 : decode cX12_sortOf 41 = .ok (.ireturn, 1) := by decide +kernel
set_option maxRecDepth 20000 in
theorem ggX12_takesTax_X12_next : GoodIn wsX12_takesTax wsX12_next := goodIn_r _ [7, 2, 8, 9, 29, 30, 31, 32, 33, 34, 35, 36, 37, 38, 39, 40, 41, 42, 43, 44, 45, 46, 47, 48, 49, 50, 51, 52, 53, 54] (by decide +kernel) (by decide +kernel)
set_option maxRecDepth 20000 in
theorem gX12_takesTax_X12_next : GoodIn wsX12_takesTax (wsV RX12 114 RX12 yX12_next wsX12_next) := goodIn_app (goodIn_of _ (by decide +kernel)) ggX12_takesTax_X12_next
set_option maxRecDepth 20000 in
theorem ggX12_takesTax_X12_sortOf : GoodIn wsX12_takesTax wsX12_sortOf := goodIn_r _ [12] (by decide +kernel) (by decide +kernel)
set_option maxRecDepth 20000 in
theorem gX12_takesTax_X12_sortOf : GoodIn wsX12_takesTax (va_wsS RX12 121 yX12_sortOf wsX12_sortOf) := goodIn_app (goodIn_of _ (by decide +kernel)) ggX12_takesTax_X12_sortOf
set_option maxRecDepth 20000 in
theorem ggX12_takesTax_X12_takesFigure : GoodIn wsX12_takesTax wsX12_takesFigure := goodIn_r _ [16, 1, 2, 3, 4, 5, 6, 7, 8, 9, 17, 18, 19, 20, 21, 22, 23, 24, 29, 30, 31, 32, 33, 34, 35, 36, 37, 38, 39, 40, 41, 42, 43, 44, 45, 46, 47, 48, 49, 50, 51, 52, 53, 54] (by decide +kernel) (by decide +kernel)
set_option maxRecDepth 20000 in
theorem gX12_takesTax_X12_takesFigure : GoodIn wsX12_takesTax (wsV RX12 125 RX12 yX12_takesFigure wsX12_takesFigure) := goodIn_app (goodIn_of _ (by decide +kernel)) ggX12_takesTax_X12_takesFigure
set_option maxRecDepth 20000 in
theorem ggX12_takesTax_X12_takesNumber : GoodIn wsX12_takesTax wsX12_takesNumber := goodIn_r _ [28, 2, 8, 9, 1, 3, 4, 5, 6, 7, 17, 18, 19, 20, 21, 22, 23, 24, 29, 30, 31, 32, 33, 34, 35, 36, 37, 38, 39, 40, 41, 42, 43, 44, 45, 46, 47, 48, 49, 50, 51, 52, 53, 54] (by decide +kernel) (by decide +kernel)
set_option maxRecDepth 20000 in
theorem gX12_takesTax_X12_takesNumber : GoodIn wsX12_takesTax (wsV RX12 128 RX12 yX12_takesNumber wsX12_takesNumber) := goodIn_app (goodIn_of _ (by decide +kernel)) ggX12_takesTax_X12_takesNumber
theorem dX12_takesTax_0 : decode cX12_takesTax 0 = .ok (.aload_n 0, 1) := by decide +kernel
theorem dX12_takesTax_1 : decode cX12_takesTax 1 = .ok (.invokevirtual 114, 3) := by decide +kernel
theorem dX12_takesTax_4 : decode cX12_takesTax 4 = .ok (.istore_n 1, 1) := by decide +kernel
theorem dX12_takesTax_5 : decode cX12_takesTax 5 = .ok (.iload_n 1, 1) := by decide +kernel
theorem dX12_takesTax_6 : decode cX12_takesTax 6 = .ok (.bipush 108, 2) := by decide +kernel
theorem dX12_takesTax_8 : decode cX12_takesTax 8 = .ok (.if_icmp .eq 9, 3) := by decide +kernel
theorem dX12_takesTax_11 : decode cX12_takesTax 11 = .ok (.iload_n 1, 1) := by decide +kernel
theorem dX12_takesTax_12 : decode cX12_takesTax 12 = .ok (.bipush 114, 2) := by decide +kernel
theorem dX12_takesTax_14 : decode cX12_takesTax 14 = .ok (.if_icmp .ne 30, 3) := by decide +kernel
theorem dX12_takesTax_17 : decode cX12_takesTax 17 = .ok (.aload_n 0, 1) := by decide +kernel
theorem dX12_takesTax_18 : decode cX12_takesTax 18 = .ok (.getfield 28, 3) := by decide +kernel
theorem dX12_takesTax_21 : decode cX12_takesTax 21 = .ok (.iconst 5, 1) := by decide +kernel
theorem dX12_takesTax_22 : decode cX12_takesTax 22 = .ok (.iload_n 1, 1) := by decide +kernel
theorem dX12_takesTax_23 : decode cX12_takesTax 23 = .ok (.bipush 108, 2) := by decide +kernel
theorem dX12_takesTax_25 : decode cX12_takesTax 25 = .ok (.if_icmp .ne 7, 3) := by decide +kernel
theorem dX12_takesTax_28 : decode cX12_takesTax 28 = .ok (.iconst 0, 1) := by decide +kernel
theorem dX12_takesTax_29 : decode cX12_takesTax 29 = .ok (.goto 4, 3) := by decide +kernel
theorem dX12_takesTax_32 : decode cX12_takesTax 32 = .ok (.iconst 1, 1) := by decide +kernel
theorem dX12_takesTax_33 : decode cX12_takesTax 33 = .ok (.iastore, 1) := by decide +kernel
theorem dX12_takesTax_34 : decode cX12_takesTax 34 = .ok (.aload_n 0, 1) := by decide +kernel
theorem dX12_takesTax_35 : decode cX12_takesTax 35 = .ok (.dup, 1) := by decide +kernel
theorem dX12_takesTax_36 : decode cX12_takesTax 36 = .ok (.getfield 107, 3) := by decide +kernel
theorem dX12_takesTax_39 : decode cX12_takesTax 39 = .ok (.iconst 1, 1) := by decide +kernel
theorem dX12_takesTax_40 : decode cX12_takesTax 40 = .ok (.iadd, 1) := by decide +kernel
theorem dX12_takesTax_41 : decode cX12_takesTax 41 = .ok (.putfield 107, 3) := by decide +kernel
theorem dX12_takesTax_44 : decode cX12_takesTax 44 = .ok (.iconst 0, 1) := by decide +kernel
theorem dX12_takesTax_45 : decode cX12_takesTax 45 = .ok (.istore_n 2, 1) := by decide +kernel
theorem dX12_takesTax_46 : decode cX12_takesTax 46 = .ok (.aload_n 0, 1) := by decide +kernel
theorem dX12_takesTax_47 : decode cX12_takesTax 47 = .ok (.invokevirtual 114, 3) := by decide +kernel
theorem dX12_takesTax_50 : decode cX12_takesTax 50 = .ok (.invokestatic 121, 3) := by decide +kernel
theorem dX12_takesTax_53 : decode cX12_takesTax 53 = .ok (.istore_n 3, 1) := by decide +kernel
theorem dX12_takesTax_54 : decode cX12_takesTax 54 = .ok (.iload_n 3, 1) := by decide +kernel
theorem dX12_takesTax_55 : decode cX12_takesTax 55 = .ok (.ifCond .lt 46, 3) := by decide +kernel
theorem dX12_takesTax_58 : decode cX12_takesTax 58 = .ok (.aload_n 0, 1) := by decide +kernel
theorem dX12_takesTax_59 : decode cX12_takesTax 59 = .ok (.getfield 28, 3) := by decide +kernel
theorem dX12_takesTax_62 : decode cX12_takesTax 62 = .ok (.iload_n 3, 1) := by decide +kernel
theorem dX12_takesTax_63 : decode cX12_takesTax 63 = .ok (.iaload, 1) := by decide +kernel
theorem dX12_takesTax_64 : decode cX12_takesTax 64 = .ok (.ifCond .ge 37, 3) := by decide +kernel
theorem dX12_takesTax_67 : decode cX12_takesTax 67 = .ok (.aload_n 0, 1) := by decide +kernel
theorem dX12_takesTax_68 : decode cX12_takesTax 68 = .ok (.dup, 1) := by decide +kernel
theorem dX12_takesTax_69 : decode cX12_takesTax 69 = .ok (.getfield 107, 3) := by decide +kernel
theorem dX12_takesTax_72 : decode cX12_takesTax 72 = .ok (.iconst 1, 1) := by decide +kernel
theorem dX12_takesTax_73 : decode cX12_takesTax 73 = .ok (.iadd, 1) := by decide +kernel
theorem dX12_takesTax_74 : decode cX12_takesTax 74 = .ok (.putfield 107, 3) := by decide +kernel
theorem dX12_takesTax_77 : decode cX12_takesTax 77 = .ok (.aload_n 0, 1) := by decide +kernel
theorem dX12_takesTax_78 : decode cX12_takesTax 78 = .ok (.iload_n 3, 1) := by decide +kernel
theorem dX12_takesTax_79 : decode cX12_takesTax 79 = .ok (.invokevirtual 125, 3) := by decide +kernel
theorem dX12_takesTax_82 : decode cX12_takesTax 82 = .ok (.ifCond .ne 5, 3) := by decide +kernel
theorem dX12_takesTax_85 : decode cX12_takesTax 85 = .ok (.iconst (-1), 1) := by decide +kernel
theorem dX12_takesTax_86 : decode cX12_takesTax 86 = .ok (.ireturn, 1) := by decide +kernel
theorem dX12_takesTax_87 : decode cX12_takesTax 87 = .ok (.iinc 2 1, 3) := by decide +kernel
theorem dX12_takesTax_90 : decode cX12_takesTax 90 = .ok (.aload_n 0, 1) := by decide +kernel
theorem dX12_takesTax_91 : decode cX12_takesTax 91 = .ok (.invokevirtual 114, 3) := by decide +kernel
theorem dX12_takesTax_94 : decode cX12_takesTax 94 = .ok (.invokestatic 121, 3) := by decide +kernel
theorem dX12_takesTax_97 : decode cX12_takesTax 97 = .ok (.istore_n 3, 1) := by decide +kernel
theorem dX12_takesTax_98 : decode cX12_takesTax 98 = .ok (.goto (-44), 3) := by decide +kernel
theorem dX12_takesTax_101 : decode cX12_takesTax 101 = .ok (.iload_n 2, 1) := by decide +kernel
theorem dX12_takesTax_102 : decode cX12_takesTax 102 = .ok (.ifCond .le 34, 3) := by decide +kernel
theorem dX12_takesTax_105 : decode cX12_takesTax 105 = .ok (.aload_n 0, 1) := by decide +kernel
theorem dX12_takesTax_106 : decode cX12_takesTax 106 = .ok (.invokevirtual 114, 3) := by decide +kernel
theorem dX12_takesTax_109 : decode cX12_takesTax 109 = .ok (.bipush 102, 2) := by decide +kernel
theorem dX12_takesTax_111 : decode cX12_takesTax 111 = .ok (.if_icmp .ne 25, 3) := by decide +kernel
theorem dX12_takesTax_114 : decode cX12_takesTax 114 = .ok (.aload_n 0, 1) := by decide +kernel
theorem dX12_takesTax_115 : decode cX12_takesTax 115 = .ok (.dup, 1) := by decide +kernel
theorem dX12_takesTax_116 : decode cX12_takesTax 116 = .ok (.getfield 107, 3) := by decide +kernel
theorem dX12_takesTax_119 : decode cX12_takesTax 119 = .ok (.iconst 1, 1) := by decide +kernel
theorem dX12_takesTax_120 : decode cX12_takesTax 120 = .ok (.iadd, 1) := by decide +kernel
theorem dX12_takesTax_121 : decode cX12_takesTax 121 = .ok (.putfield 107, 3) := by decide +kernel
theorem dX12_takesTax_124 : decode cX12_takesTax 124 = .ok (.aload_n 0, 1) := by decide +kernel
theorem dX12_takesTax_125 : decode cX12_takesTax 125 = .ok (.iconst 4, 1) := by decide +kernel
theorem dX12_takesTax_126 : decode cX12_takesTax 126 = .ok (.bipush 99, 2) := by decide +kernel
theorem dX12_takesTax_128 : decode cX12_takesTax 128 = .ok (.invokevirtual 128, 3) := by decide +kernel
theorem dX12_takesTax_131 : decode cX12_takesTax 131 = .ok (.ifCond .ne 5, 3) := by decide +kernel
theorem dX12_takesTax_134 : decode cX12_takesTax 134 = .ok (.iconst (-1), 1) := by decide +kernel
theorem dX12_takesTax_135 : decode cX12_takesTax 135 = .ok (.ireturn, 1) := by decide +kernel
theorem dX12_takesTax_136 : decode cX12_takesTax 136 = .ok (.iload_n 2, 1) := by decide +kernel
theorem dX12_takesTax_137 : decode cX12_takesTax 137 = .ok (.ifCond .le 14, 3) := by decide +kernel
theorem dX12_takesTax_140 : decode cX12_takesTax 140 = .ok (.aload_n 0, 1) := by decide +kernel
theorem dX12_takesTax_141 : decode cX12_takesTax 141 = .ok (.invokevirtual 114, 3) := by decide +kernel
theorem dX12_takesTax_144 : decode cX12_takesTax 144 = .ok (.ifCond .ge 7, 3) := by decide +kernel
theorem dX12_takesTax_147 : decode cX12_takesTax 147 = .ok (.iload_n 2, 1) := by decide +kernel
theorem dX12_takesTax_148 : decode cX12_takesTax 148 = .ok (.goto 4, 3) := by decide +kernel
theorem dX12_takesTax_151 : decode cX12_takesTax 151 = .ok (.iconst (-1), 1) := by decide +kernel
theorem dX12_takesTax_152 : decode cX12_takesTax 152 = .ok (.ireturn, 1) := by decide +kernel
theorem dX12_begin_0 : decode cX12_begin 0 = .ok (.aload_n 0, 1) := by decide +kernel
theorem dX12_begin_1 : decode cX12_begin 1 = .ok (.iconst 0, 1) := by decide +kernel
theorem dX12_begin_2 : decode cX12_begin 2 = .ok (.putfield 107, 3) := by decide +kernel
theorem dX12_begin_5 : decode cX12_begin 5 = .ok (.iconst 0, 1) := by decide +kernel
theorem dX12_begin_6 : decode cX12_begin 6 = .ok (.istore_n 1, 1) := by decide +kernel
theorem dX12_begin_7 : decode cX12_begin 7 = .ok (.iload_n 1, 1) := by decide +kernel
theorem dX12_begin_8 : decode cX12_begin 8 = .ok (.bipush 18, 2) := by decide +kernel
theorem dX12_begin_10 : decode cX12_begin 10 = .ok (.if_icmp .ge 16, 3) := by decide +kernel
theorem dX12_begin_13 : decode cX12_begin 13 = .ok (.aload_n 0, 1) := by decide +kernel
theorem dX12_begin_14 : decode cX12_begin 14 = .ok (.getfield 28, 3) := by decide +kernel
theorem dX12_begin_17 : decode cX12_begin 17 = .ok (.iload_n 1, 1) := by decide +kernel
theorem dX12_begin_18 : decode cX12_begin 18 = .ok (.iconst (-1), 1) := by decide +kernel
theorem dX12_begin_19 : decode cX12_begin 19 = .ok (.iastore, 1) := by decide +kernel
theorem dX12_begin_20 : decode cX12_begin 20 = .ok (.iinc 1 1, 3) := by decide +kernel
theorem dX12_begin_23 : decode cX12_begin 23 = .ok (.goto (-16), 3) := by decide +kernel
theorem dX12_begin_26 : decode cX12_begin 26 = .ok (.return_, 1) := by decide +kernel
set_option maxRecDepth 20000 in
theorem ggX12_taxes_X12_begin : GoodIn wsX12_taxes wsX12_begin := goodIn_r _ [9, 2, 4, 38, 39, 40, 41, 42, 43, 44, 45, 46, 47, 48, 49, 50, 51, 52, 53, 54, 55, 56, 57, 58, 59, 60, 61, 62, 63] (by decide +kernel) (by decide +kernel)
set_option maxRecDepth 20000 in
theorem gX12_taxes_X12_begin : GoodIn wsX12_taxes (wsV RX12 132 RX12 yX12_begin wsX12_begin) := goodIn_app (goodIn_of _ (by decide +kernel)) ggX12_taxes_X12_begin
set_option maxRecDepth 20000 in
theorem ggX12_taxes_X12_takesTax : GoodIn wsX12_taxes wsX12_takesTax := goodIn_r _ [13, 4, 2, 14, 15, 16, 8, 17, 1, 18, 19, 20, 21, 22, 23, 24, 25, 26, 27, 28, 29, 30, 31, 32, 33, 34, 35, 36, 37, 38, 39, 40, 41, 42, 43, 44, 45, 46, 47, 48, 49, 50, 51, 52, 53, 54, 55, 56, 57, 58, 59, 60, 61, 62, 63] (by decide +kernel) (by decide +kernel)
set_option maxRecDepth 20000 in
theorem gX12_taxes_X12_takesTax : GoodIn wsX12_taxes (wsV RX12 135 RX12 yX12_takesTax wsX12_takesTax) := goodIn_app (goodIn_of _ (by decide +kernel)) ggX12_taxes_X12_takesTax
set_option maxRecDepth 20000 in
theorem ggX12_taxes_X12_next : GoodIn wsX12_taxes wsX12_next := goodIn_r _ [17, 2, 1, 18, 38, 39, 40, 41, 42, 43, 44, 45, 46, 47, 48, 49, 50, 51, 52, 53, 54, 55, 56, 57, 58, 59, 60, 61, 62, 63] (by decide +kernel) (by decide +kernel)
set_option maxRecDepth 20000 in
theorem gX12_taxes_X12_next : GoodIn wsX12_taxes (wsV RX12 114 RX12 yX12_next wsX12_next) := goodIn_app (goodIn_of _ (by decide +kernel)) ggX12_taxes_X12_next
theorem dX12_taxes_0 : decode cX12_taxes 0 = .ok (.aload_n 0, 1) := by decide +kernel
theorem dX12_taxes_1 : decode cX12_taxes 1 = .ok (.invokevirtual 132, 3) := by decide +kernel
theorem dX12_taxes_4 : decode cX12_taxes 4 = .ok (.aload_n 0, 1) := by decide +kernel
theorem dX12_taxes_5 : decode cX12_taxes 5 = .ok (.invokevirtual 135, 3) := by decide +kernel
theorem dX12_taxes_8 : decode cX12_taxes 8 = .ok (.istore_n 1, 1) := by decide +kernel
theorem dX12_taxes_9 : decode cX12_taxes 9 = .ok (.iload_n 1, 1) := by decide +kernel
theorem dX12_taxes_10 : decode cX12_taxes 10 = .ok (.ifCond .ge 21, 3) := by decide +kernel
theorem dX12_taxes_13 : decode cX12_taxes 13 = .ok (.aload_n 0, 1) := by decide +kernel
theorem dX12_taxes_14 : decode cX12_taxes 14 = .ok (.invokevirtual 114, 3) := by decide +kernel
theorem dX12_taxes_17 : decode cX12_taxes 17 = .ok (.pop, 1) := by decide +kernel
theorem dX12_taxes_18 : decode cX12_taxes 18 = .ok (.aload_n 0, 1) := by decide +kernel
theorem dX12_taxes_19 : decode cX12_taxes 19 = .ok (.iconst 0, 1) := by decide +kernel
theorem dX12_taxes_20 : decode cX12_taxes 20 = .ok (.putfield 103, 3) := by decide +kernel
theorem dX12_taxes_23 : decode cX12_taxes 23 = .ok (.bipush (-20), 2) := by decide +kernel
theorem dX12_taxes_25 : decode cX12_taxes 25 = .ok (.aload_n 0, 1) := by decide +kernel
theorem dX12_taxes_26 : decode cX12_taxes 26 = .ok (.getfield 107, 3) := by decide +kernel
theorem dX12_taxes_29 : decode cX12_taxes 29 = .ok (.isub, 1) := by decide +kernel
theorem dX12_taxes_30 : decode cX12_taxes 30 = .ok (.ireturn, 1) := by decide +kernel
theorem dX12_taxes_31 : decode cX12_taxes 31 = .ok (.aload_n 0, 1) := by decide +kernel
theorem dX12_taxes_32 : decode cX12_taxes 32 = .ok (.iconst 0, 1) := by decide +kernel
theorem dX12_taxes_33 : decode cX12_taxes 33 = .ok (.putfield 103, 3) := by decide +kernel
theorem dX12_taxes_36 : decode cX12_taxes 36 = .ok (.iconst 0, 1) := by decide +kernel
theorem dX12_taxes_37 : decode cX12_taxes 37 = .ok (.istore_n 2, 1) := by decide +kernel
theorem dX12_taxes_38 : decode cX12_taxes 38 = .ok (.iload_n 2, 1) := by decide +kernel
theorem dX12_taxes_39 : decode cX12_taxes 39 = .ok (.iconst 4, 1) := by decide +kernel
theorem dX12_taxes_40 : decode cX12_taxes 40 = .ok (.if_icmp .ge 45, 3) := by decide +kernel
theorem dX12_taxes_43 : decode cX12_taxes 43 = .ok (.aload_n 0, 1) := by decide +kernel
theorem dX12_taxes_44 : decode cX12_taxes 44 = .ok (.getfield 7, 3) := by decide +kernel
theorem dX12_taxes_47 : decode cX12_taxes 47 = .ok (.bipush 95, 2) := by decide +kernel
theorem dX12_taxes_49 : decode cX12_taxes 49 = .ok (.iload_n 2, 1) := by decide +kernel
theorem dX12_taxes_50 : decode cX12_taxes 50 = .ok (.iadd, 1) := by decide +kernel
theorem dX12_taxes_51 : decode cX12_taxes 51 = .ok (.aload_n 0, 1) := by decide +kernel
theorem dX12_taxes_52 : decode cX12_taxes 52 = .ok (.getfield 28, 3) := by decide +kernel
theorem dX12_taxes_55 : decode cX12_taxes 55 = .ok (.iload_n 2, 1) := by decide +kernel
theorem dX12_taxes_56 : decode cX12_taxes 56 = .ok (.iaload, 1) := by decide +kernel
theorem dX12_taxes_57 : decode cX12_taxes 57 = .ok (.ifCond .ge 15, 3) := by decide +kernel
theorem dX12_taxes_60 : decode cX12_taxes 60 = .ok (.aload_n 0, 1) := by decide +kernel
theorem dX12_taxes_61 : decode cX12_taxes 61 = .ok (.getfield 7, 3) := by decide +kernel
theorem dX12_taxes_64 : decode cX12_taxes 64 = .ok (.bipush 95, 2) := by decide +kernel
theorem dX12_taxes_66 : decode cX12_taxes 66 = .ok (.iload_n 2, 1) := by decide +kernel
theorem dX12_taxes_67 : decode cX12_taxes 67 = .ok (.iadd, 1) := by decide +kernel
theorem dX12_taxes_68 : decode cX12_taxes 68 = .ok (.iaload, 1) := by decide +kernel
theorem dX12_taxes_69 : decode cX12_taxes 69 = .ok (.goto 9, 3) := by decide +kernel
theorem dX12_taxes_72 : decode cX12_taxes 72 = .ok (.aload_n 0, 1) := by decide +kernel
theorem dX12_taxes_73 : decode cX12_taxes 73 = .ok (.getfield 28, 3) := by decide +kernel
theorem dX12_taxes_76 : decode cX12_taxes 76 = .ok (.iload_n 2, 1) := by decide +kernel
theorem dX12_taxes_77 : decode cX12_taxes 77 = .ok (.iaload, 1) := by decide +kernel
theorem dX12_taxes_78 : decode cX12_taxes 78 = .ok (.iastore, 1) := by decide +kernel
theorem dX12_taxes_79 : decode cX12_taxes 79 = .ok (.iinc 2 1, 3) := by decide +kernel
theorem dX12_taxes_82 : decode cX12_taxes 82 = .ok (.goto (-44), 3) := by decide +kernel
theorem dX12_taxes_85 : decode cX12_taxes 85 = .ok (.aload_n 0, 1) := by decide +kernel
theorem dX12_taxes_86 : decode cX12_taxes 86 = .ok (.getfield 7, 3) := by decide +kernel
theorem dX12_taxes_89 : decode cX12_taxes 89 = .ok (.iconst 2, 1) := by decide +kernel
theorem dX12_taxes_90 : decode cX12_taxes 90 = .ok (.aload_n 0, 1) := by decide +kernel
theorem dX12_taxes_91 : decode cX12_taxes 91 = .ok (.getfield 28, 3) := by decide +kernel
theorem dX12_taxes_94 : decode cX12_taxes 94 = .ok (.iconst 4, 1) := by decide +kernel
theorem dX12_taxes_95 : decode cX12_taxes 95 = .ok (.iaload, 1) := by decide +kernel
theorem dX12_taxes_96 : decode cX12_taxes 96 = .ok (.ifCond .ge 12, 3) := by decide +kernel
theorem dX12_taxes_99 : decode cX12_taxes 99 = .ok (.aload_n 0, 1) := by decide +kernel
theorem dX12_taxes_100 : decode cX12_taxes 100 = .ok (.getfield 7, 3) := by decide +kernel
theorem dX12_taxes_103 : decode cX12_taxes 103 = .ok (.iconst 2, 1) := by decide +kernel
theorem dX12_taxes_104 : decode cX12_taxes 104 = .ok (.iaload, 1) := by decide +kernel
theorem dX12_taxes_105 : decode cX12_taxes 105 = .ok (.goto 9, 3) := by decide +kernel
theorem dX12_taxes_108 : decode cX12_taxes 108 = .ok (.aload_n 0, 1) := by decide +kernel
theorem dX12_taxes_109 : decode cX12_taxes 109 = .ok (.getfield 28, 3) := by decide +kernel
theorem dX12_taxes_112 : decode cX12_taxes 112 = .ok (.iconst 4, 1) := by decide +kernel
theorem dX12_taxes_113 : decode cX12_taxes 113 = .ok (.iaload, 1) := by decide +kernel
theorem dX12_taxes_114 : decode cX12_taxes 114 = .ok (.iastore, 1) := by decide +kernel
theorem dX12_taxes_115 : decode cX12_taxes 115 = .ok (.aload_n 0, 1) := by decide +kernel
theorem dX12_taxes_116 : decode cX12_taxes 116 = .ok (.getfield 7, 3) := by decide +kernel
theorem dX12_taxes_119 : decode cX12_taxes 119 = .ok (.iconst 3, 1) := by decide +kernel
theorem dX12_taxes_120 : decode cX12_taxes 120 = .ok (.aload_n 0, 1) := by decide +kernel
theorem dX12_taxes_121 : decode cX12_taxes 121 = .ok (.getfield 28, 3) := by decide +kernel
theorem dX12_taxes_124 : decode cX12_taxes 124 = .ok (.iconst 5, 1) := by decide +kernel
theorem dX12_taxes_125 : decode cX12_taxes 125 = .ok (.iaload, 1) := by decide +kernel
theorem dX12_taxes_126 : decode cX12_taxes 126 = .ok (.ifCond .ge 12, 3) := by decide +kernel
theorem dX12_taxes_129 : decode cX12_taxes 129 = .ok (.aload_n 0, 1) := by decide +kernel
theorem dX12_taxes_130 : decode cX12_taxes 130 = .ok (.getfield 7, 3) := by decide +kernel
theorem dX12_taxes_133 : decode cX12_taxes 133 = .ok (.iconst 3, 1) := by decide +kernel
theorem dX12_taxes_134 : decode cX12_taxes 134 = .ok (.iaload, 1) := by decide +kernel
theorem dX12_taxes_135 : decode cX12_taxes 135 = .ok (.goto 9, 3) := by decide +kernel
theorem dX12_taxes_138 : decode cX12_taxes 138 = .ok (.aload_n 0, 1) := by decide +kernel
theorem dX12_taxes_139 : decode cX12_taxes 139 = .ok (.getfield 28, 3) := by decide +kernel
theorem dX12_taxes_142 : decode cX12_taxes 142 = .ok (.iconst 5, 1) := by decide +kernel
theorem dX12_taxes_143 : decode cX12_taxes 143 = .ok (.iaload, 1) := by decide +kernel
theorem dX12_taxes_144 : decode cX12_taxes 144 = .ok (.iastore, 1) := by decide +kernel
theorem dX12_taxes_145 : decode cX12_taxes 145 = .ok (.iload_n 1, 1) := by decide +kernel
theorem dX12_taxes_146 : decode cX12_taxes 146 = .ok (.ireturn, 1) := by decide +kernel
set_option maxRecDepth 20000 in
theorem ggX12_takesRoad_X12_next : GoodIn wsX12_takesRoad wsX12_next := goodIn_r _ [6, 1, 7, 8, 26, 27, 28, 29, 30, 31, 32, 33, 34, 35, 36, 37, 38, 39, 40, 41, 42, 43, 44, 45, 46, 47, 48, 49, 50, 51] (by decide +kernel) (by decide +kernel)
set_option maxRecDepth 20000 in
theorem gX12_takesRoad_X12_next : GoodIn wsX12_takesRoad (wsV RX12 114 RX12 yX12_next wsX12_next) := goodIn_app (goodIn_of _ (by decide +kernel)) ggX12_takesRoad_X12_next
set_option maxRecDepth 20000 in
theorem ggX12_takesRoad_X12_takesFigure : GoodIn wsX12_takesRoad wsX12_takesFigure := goodIn_r _ [12, 13, 1, 2, 3, 4, 5, 6, 7, 8, 14, 15, 16, 17, 18, 19, 20, 21, 26, 27, 28, 29, 30, 31, 32, 33, 34, 35, 36, 37, 38, 39, 40, 41, 42, 43, 44, 45, 46, 47, 48, 49, 50, 51] (by decide +kernel) (by decide +kernel)
set_option maxRecDepth 20000 in
theorem gX12_takesRoad_X12_takesFigure : GoodIn wsX12_takesRoad (wsV RX12 125 RX12 yX12_takesFigure wsX12_takesFigure) := goodIn_app (goodIn_of _ (by decide +kernel)) ggX12_takesRoad_X12_takesFigure
set_option maxRecDepth 20000 in
theorem ggX12_takesRoad_X12_takesNumber : GoodIn wsX12_takesRoad wsX12_takesNumber := goodIn_r _ [25, 1, 7, 8, 13, 2, 3, 4, 5, 6, 14, 15, 16, 17, 18, 19, 20, 21, 26, 27, 28, 29, 30, 31, 32, 33, 34, 35, 36, 37, 38, 39, 40, 41, 42, 43, 44, 45, 46, 47, 48, 49, 50, 51] (by decide +kernel) (by decide +kernel)
set_option maxRecDepth 20000 in
theorem gX12_takesRoad_X12_takesNumber : GoodIn wsX12_takesRoad (wsV RX12 128 RX12 yX12_takesNumber wsX12_takesNumber) := goodIn_app (goodIn_of _ (by decide +kernel)) ggX12_takesRoad_X12_takesNumber
theorem dX12_takesRoad_0 : decode cX12_takesRoad 0 = .ok (.iconst 0, 1) := by decide +kernel
theorem dX12_takesRoad_1 : decode cX12_takesRoad 1 = .ok (.istore_n 1, 1) := by decide +kernel
theorem dX12_takesRoad_2 : decode cX12_takesRoad 2 = .ok (.iload_n 1, 1) := by decide +kernel
theorem dX12_takesRoad_3 : decode cX12_takesRoad 3 = .ok (.bipush 9, 2) := by decide +kernel
theorem dX12_takesRoad_5 : decode cX12_takesRoad 5 = .ok (.if_icmp .ge 78, 3) := by decide +kernel
theorem dX12_takesRoad_8 : decode cX12_takesRoad 8 = .ok (.iload_n 1, 1) := by decide +kernel
theorem dX12_takesRoad_9 : decode cX12_takesRoad 9 = .ok (.ifCond .le 24, 3) := by decide +kernel
theorem dX12_takesRoad_12 : decode cX12_takesRoad 12 = .ok (.aload_n 0, 1) := by decide +kernel
theorem dX12_takesRoad_13 : decode cX12_takesRoad 13 = .ok (.invokevirtual 114, 3) := by decide +kernel
theorem dX12_takesRoad_16 : decode cX12_takesRoad 16 = .ok (.bipush 44, 2) := by decide +kernel
theorem dX12_takesRoad_18 : decode cX12_takesRoad 18 = .ok (.if_icmp .eq 5, 3) := by decide +kernel
theorem dX12_takesRoad_21 : decode cX12_takesRoad 21 = .ok (.iconst 0, 1) := by decide +kernel
theorem dX12_takesRoad_22 : decode cX12_takesRoad 22 = .ok (.ireturn, 1) := by decide +kernel
theorem dX12_takesRoad_23 : decode cX12_takesRoad 23 = .ok (.aload_n 0, 1) := by decide +kernel
theorem dX12_takesRoad_24 : decode cX12_takesRoad 24 = .ok (.dup, 1) := by decide +kernel
theorem dX12_takesRoad_25 : decode cX12_takesRoad 25 = .ok (.getfield 107, 3) := by decide +kernel
theorem dX12_takesRoad_28 : decode cX12_takesRoad 28 = .ok (.iconst 1, 1) := by decide +kernel
theorem dX12_takesRoad_29 : decode cX12_takesRoad 29 = .ok (.iadd, 1) := by decide +kernel
theorem dX12_takesRoad_30 : decode cX12_takesRoad 30 = .ok (.putfield 107, 3) := by decide +kernel
theorem dX12_takesRoad_33 : decode cX12_takesRoad 33 = .ok (.aload_n 0, 1) := by decide +kernel
theorem dX12_takesRoad_34 : decode cX12_takesRoad 34 = .ok (.iload_n 1, 1) := by decide +kernel
theorem dX12_takesRoad_35 : decode cX12_takesRoad 35 = .ok (.invokevirtual 125, 3) := by decide +kernel
theorem dX12_takesRoad_38 : decode cX12_takesRoad 38 = .ok (.ifCond .ne 5, 3) := by decide +kernel
theorem dX12_takesRoad_41 : decode cX12_takesRoad 41 = .ok (.iconst 0, 1) := by decide +kernel
theorem dX12_takesRoad_42 : decode cX12_takesRoad 42 = .ok (.ireturn, 1) := by decide +kernel
theorem dX12_takesRoad_43 : decode cX12_takesRoad 43 = .ok (.aload_n 0, 1) := by decide +kernel
theorem dX12_takesRoad_44 : decode cX12_takesRoad 44 = .ok (.invokevirtual 114, 3) := by decide +kernel
theorem dX12_takesRoad_47 : decode cX12_takesRoad 47 = .ok (.bipush 119, 2) := by decide +kernel
theorem dX12_takesRoad_49 : decode cX12_takesRoad 49 = .ok (.if_icmp .ne 28, 3) := by decide +kernel
theorem dX12_takesRoad_52 : decode cX12_takesRoad 52 = .ok (.aload_n 0, 1) := by decide +kernel
theorem dX12_takesRoad_53 : decode cX12_takesRoad 53 = .ok (.dup, 1) := by decide +kernel
theorem dX12_takesRoad_54 : decode cX12_takesRoad 54 = .ok (.getfield 107, 3) := by decide +kernel
theorem dX12_takesRoad_57 : decode cX12_takesRoad 57 = .ok (.iconst 1, 1) := by decide +kernel
theorem dX12_takesRoad_58 : decode cX12_takesRoad 58 = .ok (.iadd, 1) := by decide +kernel
theorem dX12_takesRoad_59 : decode cX12_takesRoad 59 = .ok (.putfield 107, 3) := by decide +kernel
theorem dX12_takesRoad_62 : decode cX12_takesRoad 62 = .ok (.aload_n 0, 1) := by decide +kernel
theorem dX12_takesRoad_63 : decode cX12_takesRoad 63 = .ok (.bipush 9, 2) := by decide +kernel
theorem dX12_takesRoad_65 : decode cX12_takesRoad 65 = .ok (.iload_n 1, 1) := by decide +kernel
theorem dX12_takesRoad_66 : decode cX12_takesRoad 66 = .ok (.iadd, 1) := by decide +kernel
theorem dX12_takesRoad_67 : decode cX12_takesRoad 67 = .ok (.bipush 16, 2) := by decide +kernel
theorem dX12_takesRoad_69 : decode cX12_takesRoad 69 = .ok (.invokevirtual 128, 3) := by decide +kernel
theorem dX12_takesRoad_72 : decode cX12_takesRoad 72 = .ok (.ifCond .ne 5, 3) := by decide +kernel
theorem dX12_takesRoad_75 : decode cX12_takesRoad 75 = .ok (.iconst 0, 1) := by decide +kernel
theorem dX12_takesRoad_76 : decode cX12_takesRoad 76 = .ok (.ireturn, 1) := by decide +kernel
theorem dX12_takesRoad_77 : decode cX12_takesRoad 77 = .ok (.iinc 1 1, 3) := by decide +kernel
theorem dX12_takesRoad_80 : decode cX12_takesRoad 80 = .ok (.goto (-78), 3) := by decide +kernel
theorem dX12_takesRoad_83 : decode cX12_takesRoad 83 = .ok (.aload_n 0, 1) := by decide +kernel
theorem dX12_takesRoad_84 : decode cX12_takesRoad 84 = .ok (.invokevirtual 114, 3) := by decide +kernel
theorem dX12_takesRoad_87 : decode cX12_takesRoad 87 = .ok (.ifCond .ge 7, 3) := by decide +kernel
theorem dX12_takesRoad_90 : decode cX12_takesRoad 90 = .ok (.iconst 1, 1) := by decide +kernel
theorem dX12_takesRoad_91 : decode cX12_takesRoad 91 = .ok (.goto 4, 3) := by decide +kernel
theorem dX12_takesRoad_94 : decode cX12_takesRoad 94 = .ok (.iconst 0, 1) := by decide +kernel
theorem dX12_takesRoad_95 : decode cX12_takesRoad 95 = .ok (.ireturn, 1) := by decide +kernel
set_option maxRecDepth 20000 in
theorem ggX12_roads_X12_begin : GoodIn wsX12_roads wsX12_begin := goodIn_r _ [9, 2, 4, 35, 36, 37, 38, 39, 40, 41, 42, 43, 44, 45, 46, 47, 48, 49, 50, 51, 52, 53, 54, 55, 56, 57, 58, 59, 60] (by decide +kernel) (by decide +kernel)
set_option maxRecDepth 20000 in
theorem gX12_roads_X12_begin : GoodIn wsX12_roads (wsV RX12 132 RX12 yX12_begin wsX12_begin) := goodIn_app (goodIn_of _ (by decide +kernel)) ggX12_roads_X12_begin
set_option maxRecDepth 20000 in
theorem ggX12_roads_X12_takesRoad : GoodIn wsX12_roads wsX12_takesRoad := goodIn_r _ [13, 2, 14, 15, 16, 8, 17, 1, 18, 19, 20, 21, 22, 4, 23, 24, 25, 26, 27, 28, 29, 30, 31, 32, 33, 34, 35, 36, 37, 38, 39, 40, 41, 42, 43, 44, 45, 46, 47, 48, 49, 50, 51, 52, 53, 54, 55, 56, 57, 58, 59, 60] (by decide +kernel) (by decide +kernel)
set_option maxRecDepth 20000 in
theorem gX12_roads_X12_takesRoad : GoodIn wsX12_roads (wsV RX12 138 RX12 yX12_takesRoad wsX12_takesRoad) := goodIn_app (goodIn_of _ (by decide +kernel)) ggX12_roads_X12_takesRoad
set_option maxRecDepth 20000 in
theorem ggX12_roads_X12_next : GoodIn wsX12_roads wsX12_next := goodIn_r _ [17, 2, 1, 18, 35, 36, 37, 38, 39, 40, 41, 42, 43, 44, 45, 46, 47, 48, 49, 50, 51, 52, 53, 54, 55, 56, 57, 58, 59, 60] (by decide +kernel) (by decide +kernel)
set_option maxRecDepth 20000 in
theorem gX12_roads_X12_next : GoodIn wsX12_roads (wsV RX12 114 RX12 yX12_next wsX12_next) := goodIn_app (goodIn_of _ (by decide +kernel)) ggX12_roads_X12_next
theorem dX12_roads_0 : decode cX12_roads 0 = .ok (.aload_n 0, 1) := by decide +kernel
theorem dX12_roads_1 : decode cX12_roads 1 = .ok (.invokevirtual 132, 3) := by decide +kernel
theorem dX12_roads_4 : decode cX12_roads 4 = .ok (.aload_n 0, 1) := by decide +kernel
theorem dX12_roads_5 : decode cX12_roads 5 = .ok (.invokevirtual 138, 3) := by decide +kernel
theorem dX12_roads_8 : decode cX12_roads 8 = .ok (.ifCond .ne 21, 3) := by decide +kernel
theorem dX12_roads_11 : decode cX12_roads 11 = .ok (.aload_n 0, 1) := by decide +kernel
theorem dX12_roads_12 : decode cX12_roads 12 = .ok (.invokevirtual 114, 3) := by decide +kernel
theorem dX12_roads_15 : decode cX12_roads 15 = .ok (.pop, 1) := by decide +kernel
theorem dX12_roads_16 : decode cX12_roads 16 = .ok (.aload_n 0, 1) := by decide +kernel
theorem dX12_roads_17 : decode cX12_roads 17 = .ok (.iconst 0, 1) := by decide +kernel
theorem dX12_roads_18 : decode cX12_roads 18 = .ok (.putfield 103, 3) := by decide +kernel
theorem dX12_roads_21 : decode cX12_roads 21 = .ok (.bipush (-20), 2) := by decide +kernel
theorem dX12_roads_23 : decode cX12_roads 23 = .ok (.aload_n 0, 1) := by decide +kernel
theorem dX12_roads_24 : decode cX12_roads 24 = .ok (.getfield 107, 3) := by decide +kernel
theorem dX12_roads_27 : decode cX12_roads 27 = .ok (.isub, 1) := by decide +kernel
theorem dX12_roads_28 : decode cX12_roads 28 = .ok (.ireturn, 1) := by decide +kernel
theorem dX12_roads_29 : decode cX12_roads 29 = .ok (.aload_n 0, 1) := by decide +kernel
theorem dX12_roads_30 : decode cX12_roads 30 = .ok (.iconst 0, 1) := by decide +kernel
theorem dX12_roads_31 : decode cX12_roads 31 = .ok (.putfield 103, 3) := by decide +kernel
theorem dX12_roads_34 : decode cX12_roads 34 = .ok (.iconst 0, 1) := by decide +kernel
theorem dX12_roads_35 : decode cX12_roads 35 = .ok (.istore_n 1, 1) := by decide +kernel
theorem dX12_roads_36 : decode cX12_roads 36 = .ok (.iconst 0, 1) := by decide +kernel
theorem dX12_roads_37 : decode cX12_roads 37 = .ok (.istore_n 2, 1) := by decide +kernel
theorem dX12_roads_38 : decode cX12_roads 38 = .ok (.iload_n 2, 1) := by decide +kernel
theorem dX12_roads_39 : decode cX12_roads 39 = .ok (.bipush 9, 2) := by decide +kernel
theorem dX12_roads_41 : decode cX12_roads 41 = .ok (.if_icmp .ge 67, 3) := by decide +kernel
theorem dX12_roads_44 : decode cX12_roads 44 = .ok (.aload_n 0, 1) := by decide +kernel
theorem dX12_roads_45 : decode cX12_roads 45 = .ok (.getfield 7, 3) := by decide +kernel
theorem dX12_roads_48 : decode cX12_roads 48 = .ok (.bipush 99, 2) := by decide +kernel
theorem dX12_roads_50 : decode cX12_roads 50 = .ok (.iload_n 2, 1) := by decide +kernel
theorem dX12_roads_51 : decode cX12_roads 51 = .ok (.iadd, 1) := by decide +kernel
theorem dX12_roads_52 : decode cX12_roads 52 = .ok (.aload_n 0, 1) := by decide +kernel
theorem dX12_roads_53 : decode cX12_roads 53 = .ok (.getfield 28, 3) := by decide +kernel
theorem dX12_roads_56 : decode cX12_roads 56 = .ok (.iload_n 2, 1) := by decide +kernel
theorem dX12_roads_57 : decode cX12_roads 57 = .ok (.iaload, 1) := by decide +kernel
theorem dX12_roads_58 : decode cX12_roads 58 = .ok (.iastore, 1) := by decide +kernel
theorem dX12_roads_59 : decode cX12_roads 59 = .ok (.aload_n 0, 1) := by decide +kernel
theorem dX12_roads_60 : decode cX12_roads 60 = .ok (.getfield 7, 3) := by decide +kernel
theorem dX12_roads_63 : decode cX12_roads 63 = .ok (.bipush 108, 2) := by decide +kernel
theorem dX12_roads_65 : decode cX12_roads 65 = .ok (.iload_n 2, 1) := by decide +kernel
theorem dX12_roads_66 : decode cX12_roads 66 = .ok (.iadd, 1) := by decide +kernel
theorem dX12_roads_67 : decode cX12_roads 67 = .ok (.aload_n 0, 1) := by decide +kernel
theorem dX12_roads_68 : decode cX12_roads 68 = .ok (.getfield 28, 3) := by decide +kernel
theorem dX12_roads_71 : decode cX12_roads 71 = .ok (.bipush 9, 2) := by decide +kernel
theorem dX12_roads_73 : decode cX12_roads 73 = .ok (.iload_n 2, 1) := by decide +kernel
theorem dX12_roads_74 : decode cX12_roads 74 = .ok (.iadd, 1) := by decide +kernel
theorem dX12_roads_75 : decode cX12_roads 75 = .ok (.iaload, 1) := by decide +kernel
theorem dX12_roads_76 : decode cX12_roads 76 = .ok (.ifCond .ge 7, 3) := by decide +kernel
theorem dX12_roads_79 : decode cX12_roads 79 = .ok (.iconst 0, 1) := by decide +kernel
theorem dX12_roads_80 : decode cX12_roads 80 = .ok (.goto 12, 3) := by decide +kernel
theorem dX12_roads_83 : decode cX12_roads 83 = .ok (.aload_n 0, 1) := by decide +kernel
theorem dX12_roads_84 : decode cX12_roads 84 = .ok (.getfield 28, 3) := by decide +kernel
theorem dX12_roads_87 : decode cX12_roads 87 = .ok (.bipush 9, 2) := by decide +kernel
theorem dX12_roads_89 : decode cX12_roads 89 = .ok (.iload_n 2, 1) := by decide +kernel
theorem dX12_roads_90 : decode cX12_roads 90 = .ok (.iadd, 1) := by decide +kernel
theorem dX12_roads_91 : decode cX12_roads 91 = .ok (.iaload, 1) := by decide +kernel
theorem dX12_roads_92 : decode cX12_roads 92 = .ok (.iastore, 1) := by decide +kernel
theorem dX12_roads_93 : decode cX12_roads 93 = .ok (.iload_n 1, 1) := by decide +kernel
theorem dX12_roads_94 : decode cX12_roads 94 = .ok (.aload_n 0, 1) := by decide +kernel
theorem dX12_roads_95 : decode cX12_roads 95 = .ok (.getfield 28, 3) := by decide +kernel
theorem dX12_roads_98 : decode cX12_roads 98 = .ok (.iload_n 2, 1) := by decide +kernel
theorem dX12_roads_99 : decode cX12_roads 99 = .ok (.iaload, 1) := by decide +kernel
theorem dX12_roads_100 : decode cX12_roads 100 = .ok (.iadd, 1) := by decide +kernel
theorem dX12_roads_101 : decode cX12_roads 101 = .ok (.istore_n 1, 1) := by decide +kernel
theorem dX12_roads_102 : decode cX12_roads 102 = .ok (.iinc 2 1, 3) := by decide +kernel
theorem dX12_roads_105 : decode cX12_roads 105 = .ok (.goto (-67), 3) := by decide +kernel
theorem dX12_roads_108 : decode cX12_roads 108 = .ok (.iload_n 1, 1) := by decide +kernel
theorem dX12_roads_109 : decode cX12_roads 109 = .ok (.ireturn, 1) := by decide +kernel
set_option maxRecDepth 20000 in
theorem ggX12_count_X12_in : GoodIn wsX12_count wsX12_in := goodIn_r _ [6] (by decide +kernel) (by decide +kernel)
set_option maxRecDepth 20000 in
theorem gX12_count_X12_in : GoodIn wsX12_count (va_wsS RX12 67 yX12_in wsX12_in) := goodIn_app (goodIn_of _ (by decide +kernel)) ggX12_count_X12_in
theorem dX12_count_0 : decode cX12_count 0 = .ok (.iload_n 1, 1) := by decide +kernel
theorem dX12_count_1 : decode cX12_count 1 = .ok (.i2l, 1) := by decide +kernel
theorem dX12_count_2 : decode cX12_count 2 = .ok (.lconst 0, 1) := by decide +kernel
theorem dX12_count_3 : decode cX12_count 3 = .ok (.ldc2_w 142, 3) := by decide +kernel
theorem dX12_count_6 : decode cX12_count 6 = .ok (.invokestatic 67, 3) := by decide +kernel
theorem dX12_count_9 : decode cX12_count 9 = .ok (.ifCond .ne 5, 3) := by decide +kernel
theorem dX12_count_12 : decode cX12_count 12 = .ok (.iconst (-1), 1) := by decide +kernel
theorem dX12_count_13 : decode cX12_count 13 = .ok (.ireturn, 1) := by decide +kernel
theorem dX12_count_14 : decode cX12_count 14 = .ok (.iconst 0, 1) := by decide +kernel
theorem dX12_count_15 : decode cX12_count 15 = .ok (.istore_n 2, 1) := by decide +kernel
theorem dX12_count_16 : decode cX12_count 16 = .ok (.iconst 0, 1) := by decide +kernel
theorem dX12_count_17 : decode cX12_count 17 = .ok (.istore_n 3, 1) := by decide +kernel
theorem dX12_count_18 : decode cX12_count 18 = .ok (.iconst 0, 1) := by decide +kernel
theorem dX12_count_19 : decode cX12_count 19 = .ok (.istore 4, 2) := by decide +kernel
theorem dX12_count_21 : decode cX12_count 21 = .ok (.iload 4, 2) := by decide +kernel
theorem dX12_count_23 : decode cX12_count 23 = .ok (.aload_n 0, 1) := by decide +kernel
theorem dX12_count_24 : decode cX12_count 24 = .ok (.getfield 7, 3) := by decide +kernel
theorem dX12_count_27 : decode cX12_count 27 = .ok (.iconst 1, 1) := by decide +kernel
theorem dX12_count_28 : decode cX12_count 28 = .ok (.iaload, 1) := by decide +kernel
theorem dX12_count_29 : decode cX12_count 29 = .ok (.if_icmp .ge 35, 3) := by decide +kernel
theorem dX12_count_32 : decode cX12_count 32 = .ok (.iload_n 2, 1) := by decide +kernel
theorem dX12_count_33 : decode cX12_count 33 = .ok (.aload_n 0, 1) := by decide +kernel
theorem dX12_count_34 : decode cX12_count 34 = .ok (.getfield 7, 3) := by decide +kernel
theorem dX12_count_37 : decode cX12_count 37 = .ok (.bipush 79, 2) := by decide +kernel
theorem dX12_count_39 : decode cX12_count 39 = .ok (.iload 4, 2) := by decide +kernel
theorem dX12_count_41 : decode cX12_count 41 = .ok (.iadd, 1) := by decide +kernel
theorem dX12_count_42 : decode cX12_count 42 = .ok (.iaload, 1) := by decide +kernel
theorem dX12_count_43 : decode cX12_count 43 = .ok (.iadd, 1) := by decide +kernel
theorem dX12_count_44 : decode cX12_count 44 = .ok (.istore_n 2, 1) := by decide +kernel
theorem dX12_count_45 : decode cX12_count 45 = .ok (.iload_n 3, 1) := by decide +kernel
theorem dX12_count_46 : decode cX12_count 46 = .ok (.aload_n 0, 1) := by decide +kernel
theorem dX12_count_47 : decode cX12_count 47 = .ok (.getfield 7, 3) := by decide +kernel
theorem dX12_count_50 : decode cX12_count 50 = .ok (.bipush 63, 2) := by decide +kernel
theorem dX12_count_52 : decode cX12_count 52 = .ok (.iload 4, 2) := by decide +kernel
theorem dX12_count_54 : decode cX12_count 54 = .ok (.iadd, 1) := by decide +kernel
theorem dX12_count_55 : decode cX12_count 55 = .ok (.iaload, 1) := by decide +kernel
theorem dX12_count_56 : decode cX12_count 56 = .ok (.iadd, 1) := by decide +kernel
theorem dX12_count_57 : decode cX12_count 57 = .ok (.istore_n 3, 1) := by decide +kernel
theorem dX12_count_58 : decode cX12_count 58 = .ok (.iinc 4 1, 3) := by decide +kernel
theorem dX12_count_61 : decode cX12_count 61 = .ok (.goto (-40), 3) := by decide +kernel
theorem dX12_count_64 : decode cX12_count 64 = .ok (.iconst 0, 1) := by decide +kernel
theorem dX12_count_65 : decode cX12_count 65 = .ok (.istore 4, 2) := by decide +kernel
theorem dX12_count_67 : decode cX12_count 67 = .ok (.iconst 0, 1) := by decide +kernel
theorem dX12_count_68 : decode cX12_count 68 = .ok (.istore 5, 2) := by decide +kernel
theorem dX12_count_70 : decode cX12_count 70 = .ok (.iload 5, 2) := by decide +kernel
theorem dX12_count_72 : decode cX12_count 72 = .ok (.bipush 64, 2) := by decide +kernel
theorem dX12_count_74 : decode cX12_count 74 = .ok (.if_icmp .ge 32, 3) := by decide +kernel
theorem dX12_count_77 : decode cX12_count 77 = .ok (.iload 4, 2) := by decide +kernel
theorem dX12_count_79 : decode cX12_count 79 = .ok (.aload_n 0, 1) := by decide +kernel
theorem dX12_count_80 : decode cX12_count 80 = .ok (.getfield 7, 3) := by decide +kernel
theorem dX12_count_83 : decode cX12_count 83 = .ok (.bipush 117, 2) := by decide +kernel
theorem dX12_count_85 : decode cX12_count 85 = .ok (.iload 5, 2) := by decide +kernel
theorem dX12_count_87 : decode cX12_count 87 = .ok (.iadd, 1) := by decide +kernel
theorem dX12_count_88 : decode cX12_count 88 = .ok (.iaload, 1) := by decide +kernel
theorem dX12_count_89 : decode cX12_count 89 = .ok (.ifCond .ge 7, 3) := by decide +kernel
theorem dX12_count_92 : decode cX12_count 92 = .ok (.iconst 0, 1) := by decide +kernel
theorem dX12_count_93 : decode cX12_count 93 = .ok (.goto 4, 3) := by decide +kernel
theorem dX12_count_96 : decode cX12_count 96 = .ok (.iconst 1, 1) := by decide +kernel
theorem dX12_count_97 : decode cX12_count 97 = .ok (.iadd, 1) := by decide +kernel
theorem dX12_count_98 : decode cX12_count 98 = .ok (.istore 4, 2) := by decide +kernel
theorem dX12_count_100 : decode cX12_count 100 = .ok (.iinc 5 1, 3) := by decide +kernel
theorem dX12_count_103 : decode cX12_count 103 = .ok (.goto (-33), 3) := by decide +kernel
theorem dX12_count_106 : decode cX12_count 106 = .ok (.iload_n 1, 1) := by decide +kernel
theorem dX12_count_107 : decode cX12_count 107 = .ok (.ifCond .ne 12, 3) := by decide +kernel
theorem dX12_count_110 : decode cX12_count 110 = .ok (.aload_n 0, 1) := by decide +kernel
theorem dX12_count_111 : decode cX12_count 111 = .ok (.getfield 7, 3) := by decide +kernel
theorem dX12_count_114 : decode cX12_count 114 = .ok (.iconst 0, 1) := by decide +kernel
theorem dX12_count_115 : decode cX12_count 115 = .ok (.iaload, 1) := by decide +kernel
theorem dX12_count_116 : decode cX12_count 116 = .ok (.goto 53, 3) := by decide +kernel
theorem dX12_count_119 : decode cX12_count 119 = .ok (.iload_n 1, 1) := by decide +kernel
theorem dX12_count_120 : decode cX12_count 120 = .ok (.iconst 1, 1) := by decide +kernel
theorem dX12_count_121 : decode cX12_count 121 = .ok (.if_icmp .ne 12, 3) := by decide +kernel
theorem dX12_count_124 : decode cX12_count 124 = .ok (.aload_n 0, 1) := by decide +kernel
theorem dX12_count_125 : decode cX12_count 125 = .ok (.getfield 7, 3) := by decide +kernel
theorem dX12_count_128 : decode cX12_count 128 = .ok (.iconst 1, 1) := by decide +kernel
theorem dX12_count_129 : decode cX12_count 129 = .ok (.iaload, 1) := by decide +kernel
theorem dX12_count_130 : decode cX12_count 130 = .ok (.goto 39, 3) := by decide +kernel
theorem dX12_count_133 : decode cX12_count 133 = .ok (.iload_n 1, 1) := by decide +kernel
theorem dX12_count_134 : decode cX12_count 134 = .ok (.iconst 2, 1) := by decide +kernel
theorem dX12_count_135 : decode cX12_count 135 = .ok (.if_icmp .ne 7, 3) := by decide +kernel
theorem dX12_count_138 : decode cX12_count 138 = .ok (.iload_n 2, 1) := by decide +kernel
theorem dX12_count_139 : decode cX12_count 139 = .ok (.goto 30, 3) := by decide +kernel
theorem dX12_count_142 : decode cX12_count 142 = .ok (.iload_n 1, 1) := by decide +kernel
theorem dX12_count_143 : decode cX12_count 143 = .ok (.iconst 3, 1) := by decide +kernel
theorem dX12_count_144 : decode cX12_count 144 = .ok (.if_icmp .ne 7, 3) := by decide +kernel
theorem dX12_count_147 : decode cX12_count 147 = .ok (.iload_n 3, 1) := by decide +kernel
theorem dX12_count_148 : decode cX12_count 148 = .ok (.goto 21, 3) := by decide +kernel
theorem dX12_count_151 : decode cX12_count 151 = .ok (.iload_n 1, 1) := by decide +kernel
theorem dX12_count_152 : decode cX12_count 152 = .ok (.iconst 4, 1) := by decide +kernel
theorem dX12_count_153 : decode cX12_count 153 = .ok (.if_icmp .ne 12, 3) := by decide +kernel
theorem dX12_count_156 : decode cX12_count 156 = .ok (.aload_n 0, 1) := by decide +kernel
theorem dX12_count_157 : decode cX12_count 157 = .ok (.getfield 7, 3) := by decide +kernel
theorem dX12_count_160 : decode cX12_count 160 = .ok (.iconst 4, 1) := by decide +kernel
theorem dX12_count_161 : decode cX12_count 161 = .ok (.iaload, 1) := by decide +kernel
theorem dX12_count_162 : decode cX12_count 162 = .ok (.goto 7, 3) := by decide +kernel
theorem dX12_count_165 : decode cX12_count 165 = .ok (.iload 4, 2) := by decide +kernel
theorem dX12_count_167 : decode cX12_count 167 = .ok (.iconst 2, 1) := by decide +kernel
theorem dX12_count_168 : decode cX12_count 168 = .ok (.idiv, 1) := by decide +kernel
theorem dX12_count_169 : decode cX12_count 169 = .ok (.ireturn, 1) := by decide +kernel
set_option maxRecDepth 20000 in
theorem ggX12_isFor_X12_isShoe : GoodIn wsX12_isFor wsX12_isShoe := goodIn_r _ [6, 1, 7, 8, 5, 9, 10, 11, 12, 13, 14, 15, 16, 17, 18, 19, 20, 21, 22, 23, 24, 25, 26, 27, 28, 29, 30, 31, 32, 33, 34, 35] (by decide +kernel) (by decide +kernel)
set_option maxRecDepth 20000 in
theorem gX12_isFor_X12_isShoe : GoodIn wsX12_isFor (wsV RX12 83 RX12 yX12_isShoe wsX12_isShoe) := goodIn_app (goodIn_of _ (by decide +kernel)) ggX12_isFor_X12_isShoe
theorem dX12_isFor_0 : decode cX12_isFor 0 = .ok (.aload_n 0, 1) := by decide +kernel
theorem dX12_isFor_1 : decode cX12_isFor 1 = .ok (.iload_n 1, 1) := by decide +kernel
theorem dX12_isFor_2 : decode cX12_isFor 2 = .ok (.invokevirtual 83, 3) := by decide +kernel
theorem dX12_isFor_5 : decode cX12_isFor 5 = .ok (.ifCond .eq 20, 3) := by decide +kernel
